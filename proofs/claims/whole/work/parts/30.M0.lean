set_option maxRecDepth 100000 in
set_option maxHeartbeats 4000000 in
theorem B_R_carry_0 {l1 : Int} {M : Mem} {Q : Int → Mem → Prop} (h : (((M 275 34) = 0 → (-2147483648 ≤ (M 275 33) + 1 ∧ (M 275 33) + 1 ≤ 2147483647) ∧ (0 < M 275 35 ∧ isA (M 275 35) 700) ∧ (-2147483648 ≤ ((M 275 33) + 1) - 1 ∧ ((M 275 33) + 1) - 1 ≤ 2147483647) ∧ ((0 : Int) ≤ ((M 275 33) + 1) - 1 ∧ ((M 275 33) + 1) - 1 < 700) ∧ Q ((up2 M 275 33 ((M 275 33) + 1)) (M 275 35) (((M 275 33) + 1) - 1)) (up2 M 275 33 ((M 275 33) + 1))) ∧ (¬ (M 275 34) = 0 → (0 < M 275 35 ∧ isA (M 275 35) 700) ∧ ((0 : Int) ≤ M 275 33 ∧ M 275 33 < 700) ∧ (-2147483648 ≤ ((up2 M (M 275 35) (M 275 33) l1) 275 33) + 1 ∧ ((up2 M (M 275 35) (M 275 33) l1) 275 33) + 1 ≤ 2147483647) ∧ (0 < (up2 M (M 275 35) (M 275 33) l1) 275 35 ∧ isA ((up2 M (M 275 35) (M 275 33) l1) 275 35) 700) ∧ (-2147483648 ≤ (((up2 M (M 275 35) (M 275 33) l1) 275 33) + 1) - 1 ∧ (((up2 M (M 275 35) (M 275 33) l1) 275 33) + 1) - 1 ≤ 2147483647) ∧ ((0 : Int) ≤ (((up2 M (M 275 35) (M 275 33) l1) 275 33) + 1) - 1 ∧ (((up2 M (M 275 35) (M 275 33) l1) 275 33) + 1) - 1 < 700) ∧ Q ((up2 (up2 M (M 275 35) (M 275 33) l1) 275 33 (((up2 M (M 275 35) (M 275 33) l1) 275 33) + 1)) ((up2 M (M 275 35) (M 275 33) l1) 275 35) ((((up2 M (M 275 35) (M 275 33) l1) 275 33) + 1) - 1)) (up2 (up2 M (M 275 35) (M 275 33) l1) 275 33 (((up2 M (M 275 35) (M 275 33) l1) 275 33) + 1))))) : AW mX9_carry 0 [(2, 275), (0, l1)] M Q := by
  refine a_aload_n (pc := 0) dX9_carry_0 (by decide) rfl ?_
  refine a_getI (y := 34) (pc := 1) dX9_carry_1 fl_RX9_237 (by decide) s0_275 (Or.inr rfl) rfl ?_
  refine a_if_eq (tgt := 17) (pc := 4) dX9_carry_4 (by decide) (fun hc1 => ?_) (fun hc1 => ?_)
  · replace h := h.1 hc1
    refine a_aload_n (pc := 17) dX9_carry_17 (by decide) rfl ?_
    refine a_dup (pc := 18) dX9_carry_18 n21 ?_
    refine a_getI (y := 33) (pc := 19) dX9_carry_19 fl_RX9_243 (by decide) s0_275 (Or.inl rfl) rfl ?_
    refine a_iconst (pc := 22) dX9_carry_22 (by decide) ?_
    have ho2 := h.1
    replace h := h.2
    refine a_iadd (pc := 23) dX9_carry_23 ho2 ?_
    refine a_putI (y := 33) (pc := 24) dX9_carry_24 fl_RX9_243 (by decide) s0_275 rfl rfl (tyX9_ok 33 (by decide)) rfl ?_
    refine a_aload_n (pc := 27) dX9_carry_27 (by decide) rfl ?_
    have ho3 := h.1
    replace h := h.2
    refine a_getD (y := 35) (pc := 28) dX9_carry_28 fl_RX9_240 (by decide) s0_275 rfl rfl (by have := ho3.1; exact this) ?_
    refine a_eq (y := M 275 35) rfl ?_
    refine a_aload_n (pc := 31) dX9_carry_31 (by decide) rfl ?_
    refine a_getI (y := 33) (pc := 32) dX9_carry_32 fl_RX9_243 (by decide) s0_275 (Or.inl rfl) rfl ?_
    refine a_eq (y := (M 275 33) + 1) rfl ?_
    refine a_iconst (pc := 35) dX9_carry_35 (by decide) ?_
    have ho4 := h.1
    replace h := h.2
    refine a_isub (pc := 36) dX9_carry_36 ho4 ?_
    have ho5 := h.1
    replace h := h.2
    refine a_iald (pc := 37) dX9_carry_37 ho3.2.1 ho3.2.2 ho5.1 ho5.2 ?_
    exact a_ireti (pc := 38) dX9_carry_38 rfl rfl (Nat.le_of_ble_eq_true rfl) ⟨rfl, h⟩
  · replace h := h.2 hc1
    refine a_aload_n (pc := 7) dX9_carry_7 (by decide) rfl ?_
    have ho6 := h.1
    replace h := h.2
    refine a_getD (y := 35) (pc := 8) dX9_carry_8 fl_RX9_240 (by decide) s0_275 rfl rfl ho6.1 ?_
    refine a_aload_n (pc := 11) dX9_carry_11 (by decide) rfl ?_
    refine a_getI (y := 33) (pc := 12) dX9_carry_12 fl_RX9_243 (by decide) s0_275 (Or.inl rfl) rfl ?_
    refine a_iload_n (pc := 15) dX9_carry_15 rfl ?_
    have ho7 := h.1
    replace h := h.2
    refine a_iast (pc := 16) dX9_carry_16 ho6.2.1 ho6.2.2 ho7.1 ho7.2 ?_
    refine a_aload_n (pc := 17) dX9_carry_17 (by decide) rfl ?_
    refine a_dup (pc := 18) dX9_carry_18 n21 ?_
    refine a_getI (y := 33) (pc := 19) dX9_carry_19 fl_RX9_243 (by decide) s0_275 (Or.inl rfl) rfl ?_
    refine a_iconst (pc := 22) dX9_carry_22 (by decide) ?_
    have ho8 := h.1
    replace h := h.2
    refine a_iadd (pc := 23) dX9_carry_23 ho8 ?_
    refine a_putI (y := 33) (pc := 24) dX9_carry_24 fl_RX9_243 (by decide) s0_275 rfl rfl (tyX9_ok 33 (by decide)) rfl ?_
    refine a_aload_n (pc := 27) dX9_carry_27 (by decide) rfl ?_
    have ho9 := h.1
    replace h := h.2
    refine a_getD (y := 35) (pc := 28) dX9_carry_28 fl_RX9_240 (by decide) s0_275 rfl rfl (by have := ho9.1; exact this) ?_
    refine a_eq (y := (up2 M (M 275 35) (M 275 33) l1) 275 35) rfl ?_
    refine a_aload_n (pc := 31) dX9_carry_31 (by decide) rfl ?_
    refine a_getI (y := 33) (pc := 32) dX9_carry_32 fl_RX9_243 (by decide) s0_275 (Or.inl rfl) rfl ?_
    refine a_eq (y := ((up2 M (M 275 35) (M 275 33) l1) 275 33) + 1) rfl ?_
    refine a_iconst (pc := 35) dX9_carry_35 (by decide) ?_
    have ho10 := h.1
    replace h := h.2
    refine a_isub (pc := 36) dX9_carry_36 ho10 ?_
    have ho11 := h.1
    replace h := h.2
    refine a_iald (pc := 37) dX9_carry_37 ho9.2.1 ho9.2.2 ho11.1 ho11.2 ?_
    exact a_ireti (pc := 38) dX9_carry_38 rfl rfl (Nat.le_of_ble_eq_true rfl) ⟨rfl, h⟩
theorem E_R_carry {l1 : Int} {M : Mem} {Q : Int → Mem → Prop} (h : AW mX9_carry 0 [(2, 275), (0, l1)] M Q) : Calls mX9_carry [(2, 275), (0, l1)] S0 M Q := calls_of (by decide) (by decide) (Nat.le_of_ble_eq_true rfl) rfl h
set_option maxRecDepth 100000 in
set_option maxHeartbeats 4000000 in
theorem B_R_clear_0 {M : Mem} {Q : Int → Mem → Prop} (h : Q (M 275 26) (up2 (up2 M 275 8 0) 275 26 0)) : AW mX9_clear 0 [(2, 275), (9, 0)] M Q := by
  refine a_aload_n (pc := 0) dX9_clear_0 (by decide) rfl ?_
  refine a_iconst (pc := 1) dX9_clear_1 (by decide) ?_
  refine a_putI (y := 8) (pc := 2) dX9_clear_2 fl_RX9_87 (by decide) s0_275 rfl rfl (tyX9_ok 8 (by decide)) rfl ?_
  refine a_aload_n (pc := 5) dX9_clear_5 (by decide) rfl ?_
  refine a_getI (y := 26) (pc := 6) dX9_clear_6 fl_RX9_173 (by decide) s0_275 (Or.inl rfl) rfl ?_
  refine a_eq (y := M 275 26) rfl ?_
  refine a_istore_n (ls1 := [(2, 275), (0, M 275 26)]) (pc := 9) dX9_clear_9 (by decide) (hp1 (t := 2) rfl (by decide)) rfl ?_
  refine a_aload_n (pc := 10) dX9_clear_10 (by decide) rfl ?_
  refine a_iconst (pc := 11) dX9_clear_11 (by decide) ?_
  refine a_putI (y := 26) (pc := 12) dX9_clear_12 fl_RX9_173 (by decide) s0_275 rfl rfl (tyX9_ok 26 (by decide)) rfl ?_
  refine a_iload_n (pc := 15) dX9_clear_15 rfl ?_
  exact a_ireti (pc := 16) dX9_clear_16 rfl rfl (Nat.le_of_ble_eq_true rfl) ⟨rfl, h⟩
theorem E_R_clear {M : Mem} {Q : Int → Mem → Prop} (h : AW mX9_clear 0 [(2, 275), (9, 0)] M Q) : Calls mX9_clear [(2, 275)] S0 M Q := calls_of (by decide) (by decide) (Nat.le_of_ble_eq_true rfl) rfl h
set_option maxRecDepth 100000 in
set_option maxHeartbeats 4000000 in
theorem B_R_delays_0 {l1 l2 l3 l4 : Int} {M : Mem} {Q : Int → Mem → Prop} (h : AW mX9_delays 3 [(2, 275), (0, l1), (0, l2), (9, 0), (0, l4), (0, l3)] M Q) : AW mX9_delays 0 [(2, 275), (0, l1), (0, l2), (0, l3), (0, l4), (9, 0)] M Q := by
  refine a_iload_n (pc := 0) dX9_delays_0 rfl ?_
  refine a_istore (ls1 := [(2, 275), (0, l1), (0, l2), (0, l3), (0, l4), (0, l3)]) (pc := 1) dX9_delays_1 (by decide) (hp1 (t := 0) rfl (by decide)) rfl ?_
  exact a_msk [true, true, true, false, true, true] rfl h
set_option maxRecDepth 100000 in
set_option maxHeartbeats 4000000 in
theorem B_R_delays_3 {l1 l2 l4 l5 : Int} {M : Mem} {Q : Int → Mem → Prop} (h : ((0 : Int) ≤ l1 ∧ l1 < 8) ∧ (((M 277 l1) ≤ l5 → Q 0 M) ∧ (¬ ((M 277 l1) ≤ l5) → (-2147483648 ≤ 36 * l1 ∧ 36 * l1 ≤ 2147483647) ∧ (-2147483648 ≤ 6 * l2 ∧ 6 * l2 ≤ 2147483647) ∧ (-2147483648 ≤ (36 * l1) + (6 * l2) ∧ (36 * l1) + (6 * l2) ≤ 2147483647) ∧ (-2147483648 ≤ ((36 * l1) + (6 * l2)) + l5 ∧ ((36 * l1) + (6 * l2)) + l5 ≤ 2147483647) ∧ ((0 : Int) ≤ ((36 * l1) + (6 * l2)) + l5 ∧ ((36 * l1) + (6 * l2)) + l5 < 288) ∧ (-2147483648 ≤ (M 281 (((36 * l1) + (6 * l2)) + l5)) + l4 ∧ (M 281 (((36 * l1) + (6 * l2)) + l5)) + l4 ≤ 2147483647) ∧ (-2147483648 ≤ l5 + 1 ∧ l5 + 1 ≤ 2147483647) ∧ AW mX9_delays 3 [(2, 275), (0, l1), (0, l2), (9, 0), (0, l4), (0, l5 + 1)] (up2 M 281 (((36 * l1) + (6 * l2)) + l5) ((M 281 (((36 * l1) + (6 * l2)) + l5)) + l4)) Q))) : AW mX9_delays 3 [(2, 275), (0, l1), (0, l2), (9, 0), (0, l4), (0, l5)] M Q := by
  refine a_iload (pc := 3) dX9_delays_3 rfl ?_
  refine a_aload_n (pc := 5) dX9_delays_5 (by decide) rfl ?_
  refine a_getR (y := 277) (pc := 6) dX9_delays_6 fl_RX9_13 (by decide) s0_275 rfl rfl ?_
  refine a_iload_n (pc := 9) dX9_delays_9 rfl ?_
  have ho1 := h.1
  replace h := h.2
  refine a_iald (pc := 10) dX9_delays_10 (by decide) s0_277 ho1.1 ho1.2 ?_
  refine a_icmp_ge (tgt := 42) (pc := 11) dX9_delays_11 (by decide) (fun hc2 => ?_) (fun hc2 => ?_)
  · replace h := h.1 hc2
    exact a_vret (pc := 42) dX9_delays_42 rfl rfl (Nat.le_of_ble_eq_true rfl) ⟨rfl, h⟩
  · replace h := h.2 hc2
    refine a_aload_n (pc := 14) dX9_delays_14 (by decide) rfl ?_
    refine a_getR (y := 281) (pc := 15) dX9_delays_15 fl_RX9_25 (by decide) s0_275 rfl rfl ?_
    refine a_bipush (pc := 18) dX9_delays_18 (by decide) (by decide +kernel) ?_
    refine a_iload_n (pc := 20) dX9_delays_20 rfl ?_
    have ho3 := h.1
    replace h := h.2
    refine a_imul (pc := 21) dX9_delays_21 ho3 ?_
    refine a_bipush (pc := 22) dX9_delays_22 (by decide) (by decide +kernel) ?_
    refine a_iload_n (pc := 24) dX9_delays_24 rfl ?_
    have ho4 := h.1
    replace h := h.2
    refine a_imul (pc := 25) dX9_delays_25 ho4 ?_
    have ho5 := h.1
    replace h := h.2
    refine a_iadd (pc := 26) dX9_delays_26 ho5 ?_
    refine a_iload (pc := 27) dX9_delays_27 rfl ?_
    have ho6 := h.1
    replace h := h.2
    refine a_iadd (pc := 29) dX9_delays_29 ho6 ?_
    refine a_dup2 (pc := 30) dX9_delays_30 n01 n21 ?_
    have ho7 := h.1
    replace h := h.2
    refine a_iald (pc := 31) dX9_delays_31 (by decide) s0_281 ho7.1 ho7.2 ?_
    refine a_iload (pc := 32) dX9_delays_32 rfl ?_
    have ho8 := h.1
    replace h := h.2
    refine a_iadd (pc := 34) dX9_delays_34 ho8 ?_
    refine a_iast (pc := 35) dX9_delays_35 (by decide) s0_281 ho7.1 ho7.2 ?_
    have ho9 := h.1
    replace h := h.2
    refine a_iinc (ls1 := [(2, 275), (0, l1), (0, l2), (9, 0), (0, l4), (0, l5 + 1)]) (pc := 36) dX9_delays_36 rfl (by decide) (hp1 (t := 0) rfl (by decide)) ho9 rfl ?_
    refine a_goto (tgt := 3) (pc := 39) dX9_delays_39 (by decide) ?_
    exact h
theorem E_R_delays {l1 l2 l3 l4 : Int} {M : Mem} {Q : Int → Mem → Prop} (h : AW mX9_delays 0 [(2, 275), (0, l1), (0, l2), (0, l3), (0, l4), (9, 0)] M Q) : Calls mX9_delays [(2, 275), (0, l1), (0, l2), (0, l3), (0, l4)] S0 M Q := calls_of (by decide) (by decide) (Nat.le_of_ble_eq_true rfl) rfl h
set_option maxRecDepth 100000 in
set_option maxHeartbeats 4000000 in
theorem B_R_fareOf_0 {l1 l2 : Int} {M : Mem} {Q : Int → Mem → Prop} (h : (-2147483648 ≤ l2 + 2 ∧ l2 + 2 ≤ 2147483647) ∧ ((0 : Int) ≤ l1 ∧ l1 < 8) ∧ (((M 276 l1) < 1 ∨ 5 < (M 276 l1) ∨ (M 276 l1) = 2 → Q (l2 + 2) M) ∧ ((M 276 l1) = 1 → (-2147483648 ≤ (l2 + 2) + 1 ∧ (l2 + 2) + 1 ≤ 2147483647) ∧ Q ((l2 + 2) + 1) M) ∧ ((M 276 l1) = 3 → (-2147483648 ≤ 2 * (l2 + 2) ∧ 2 * (l2 + 2) ≤ 2147483647) ∧ Q (2 * (l2 + 2)) M) ∧ ((M 276 l1) = 4 → (-2147483648 ≤ (l2 + 2) + 6 ∧ (l2 + 2) + 6 ≤ 2147483647) ∧ Q ((l2 + 2) + 6) M) ∧ ((M 276 l1) = 5 → (-2147483648 ≤ 2 * (l2 + 2) ∧ 2 * (l2 + 2) ≤ 2147483647) ∧ (-2147483648 ≤ (2 * (l2 + 2)) - 3 ∧ (2 * (l2 + 2)) - 3 ≤ 2147483647) ∧ Q ((2 * (l2 + 2)) - 3) M))) : AW mX9_fareOf 0 [(2, 275), (0, l1), (0, l2), (9, 0)] M Q := by
  refine a_iload_n (pc := 0) dX9_fareOf_0 rfl ?_
  refine a_iconst (pc := 1) dX9_fareOf_1 (by decide) ?_
  have ho1 := h.1
  replace h := h.2
  refine a_iadd (pc := 2) dX9_fareOf_2 ho1 ?_
  refine a_istore_n (ls1 := [(2, 275), (0, l1), (0, l2), (0, l2 + 2)]) (pc := 3) dX9_fareOf_3 (by decide) (hp1 (t := 0) rfl (by decide)) rfl ?_
  refine a_aload_n (pc := 4) dX9_fareOf_4 (by decide) rfl ?_
  refine a_getR (y := 276) (pc := 5) dX9_fareOf_5 fl_RX9_7 (by decide) s0_275 rfl rfl ?_
  refine a_iload_n (pc := 8) dX9_fareOf_8 rfl ?_
  have ho2 := h.1
  replace h := h.2
  refine a_iald (pc := 9) dX9_fareOf_9 (by decide) s0_276 ho2.1 ho2.2 ?_
  rcases (show (M 276 l1) < 1 ∨ 5 < (M 276 l1) ∨ (M 276 l1) = 1 ∨ (M 276 l1) = 2 ∨ (M 276 l1) = 3 ∨ (M 276 l1) = 4 ∨ (M 276 l1) = 5 by omega) with hc | hc | hc | hc | hc | hc | hc
  · replace h := h.1 (by omega)
    refine a_tabOut (tgt := 63) (pc := 10) dX9_fareOf_10 (by omega) (by decide) ?_
    refine a_iload_n (pc := 63) dX9_fareOf_63 rfl ?_
    exact a_ireti (pc := 64) dX9_fareOf_64 rfl rfl (Nat.le_of_ble_eq_true rfl) ⟨rfl, h⟩
  · replace h := h.1 (by omega)
    refine a_tabOut (tgt := 63) (pc := 10) dX9_fareOf_10 (by omega) (by decide) ?_
    refine a_iload_n (pc := 63) dX9_fareOf_63 rfl ?_
    exact a_ireti (pc := 64) dX9_fareOf_64 rfl rfl (Nat.le_of_ble_eq_true rfl) ⟨rfl, h⟩
  · replace h := h.2.1 hc
    refine a_tabIn (v := 1) (off := 34) (tgt := 44) (pc := 10) dX9_fareOf_10 hc (by decide) (by decide) rfl (by decide) ?_
    refine a_iload_n (pc := 44) dX9_fareOf_44 rfl ?_
    refine a_iconst (pc := 45) dX9_fareOf_45 (by decide) ?_
    have ho3 := h.1
    replace h := h.2
    refine a_iadd (pc := 46) dX9_fareOf_46 ho3 ?_
    exact a_ireti (pc := 47) dX9_fareOf_47 rfl rfl (Nat.le_of_ble_eq_true rfl) ⟨rfl, h⟩
  · replace h := h.1 (by omega)
    refine a_tabIn (v := 2) (off := 53) (tgt := 63) (pc := 10) dX9_fareOf_10 hc (by decide) (by decide) rfl (by decide) ?_
    refine a_iload_n (pc := 63) dX9_fareOf_63 rfl ?_
    exact a_ireti (pc := 64) dX9_fareOf_64 rfl rfl (Nat.le_of_ble_eq_true rfl) ⟨rfl, h⟩
  · replace h := h.2.2.1 hc
    refine a_tabIn (v := 3) (off := 38) (tgt := 48) (pc := 10) dX9_fareOf_10 hc (by decide) (by decide) rfl (by decide) ?_
    refine a_iconst (pc := 48) dX9_fareOf_48 (by decide) ?_
    refine a_iload_n (pc := 49) dX9_fareOf_49 rfl ?_
    have ho4 := h.1
    replace h := h.2
    refine a_imul (pc := 50) dX9_fareOf_50 ho4 ?_
    exact a_ireti (pc := 51) dX9_fareOf_51 rfl rfl (Nat.le_of_ble_eq_true rfl) ⟨rfl, h⟩
  · replace h := h.2.2.2.1 hc
    refine a_tabIn (v := 4) (off := 42) (tgt := 52) (pc := 10) dX9_fareOf_10 hc (by decide) (by decide) rfl (by decide) ?_
    refine a_iload_n (pc := 52) dX9_fareOf_52 rfl ?_
    refine a_bipush (pc := 53) dX9_fareOf_53 (by decide) (by decide +kernel) ?_
    have ho5 := h.1
    replace h := h.2
    refine a_iadd (pc := 55) dX9_fareOf_55 ho5 ?_
    exact a_ireti (pc := 56) dX9_fareOf_56 rfl rfl (Nat.le_of_ble_eq_true rfl) ⟨rfl, h⟩
  · replace h := h.2.2.2.2 hc
    refine a_tabIn (v := 5) (off := 47) (tgt := 57) (pc := 10) dX9_fareOf_10 hc (by decide) (by decide) rfl (by decide) ?_
    refine a_iconst (pc := 57) dX9_fareOf_57 (by decide) ?_
    refine a_iload_n (pc := 58) dX9_fareOf_58 rfl ?_
    have ho6 := h.1
    replace h := h.2
    refine a_imul (pc := 59) dX9_fareOf_59 ho6 ?_
    refine a_iconst (pc := 60) dX9_fareOf_60 (by decide) ?_
    have ho7 := h.1
    replace h := h.2
    refine a_isub (pc := 61) dX9_fareOf_61 ho7 ?_
    exact a_ireti (pc := 62) dX9_fareOf_62 rfl rfl (Nat.le_of_ble_eq_true rfl) ⟨rfl, h⟩
theorem E_R_fareOf {l1 l2 : Int} {M : Mem} {Q : Int → Mem → Prop} (h : AW mX9_fareOf 0 [(2, 275), (0, l1), (0, l2), (9, 0)] M Q) : Calls mX9_fareOf [(2, 275), (0, l1), (0, l2)] S0 M Q := calls_of (by decide) (by decide) (Nat.le_of_ble_eq_true rfl) rfl h
set_option maxRecDepth 100000 in
set_option maxHeartbeats 4000000 in
theorem B_R_footMany_0 {M : Mem} {Q : Int → Mem → Prop} (h : AW mX9_footMany 4 [(2, 275), (0, 0), (0, 0)] M Q) : AW mX9_footMany 0 [(2, 275), (9, 0), (9, 0)] M Q := by
  refine a_iconst (pc := 0) dX9_footMany_0 (by decide) ?_
  refine a_istore_n (ls1 := [(2, 275), (0, 0), (9, 0)]) (pc := 1) dX9_footMany_1 (by decide) (hp1 (t := 2) rfl (by decide)) rfl ?_
  refine a_iconst (pc := 2) dX9_footMany_2 (by decide) ?_
  refine a_istore_n (ls1 := [(2, 275), (0, 0), (0, 0)]) (pc := 3) dX9_footMany_3 (by decide) (hp1 (t := 0) rfl (by decide)) rfl ?_
  exact h
set_option maxRecDepth 100000 in
set_option maxHeartbeats 4000000 in
theorem B_R_footMany_4 {l1 l2 : Int} {M : Mem} {Q : Int → Mem → Prop} (h : ((144 ≤ l2 → ((0 : Int) ≤ l1) ∧ Q (l1 / 2) M) ∧ (¬ (144 ≤ l2) → ((0 : Int) ≤ l2 ∧ l2 < 144) ∧ (((M 282 l2) ≤ 0 → (-2147483648 ≤ l1 + 0 ∧ l1 + 0 ≤ 2147483647) ∧ (-2147483648 ≤ l2 + 1 ∧ l2 + 1 ≤ 2147483647) ∧ AW mX9_footMany 4 [(2, 275), (0, l1 + 0), (0, l2 + 1)] M Q) ∧ (¬ ((M 282 l2) ≤ 0) → (-2147483648 ≤ l1 + 1 ∧ l1 + 1 ≤ 2147483647) ∧ (-2147483648 ≤ l2 + 1 ∧ l2 + 1 ≤ 2147483647) ∧ AW mX9_footMany 4 [(2, 275), (0, l1 + 1), (0, l2 + 1)] M Q))))) : AW mX9_footMany 4 [(2, 275), (0, l1), (0, l2)] M Q := by
  refine a_iload_n (pc := 4) dX9_footMany_4 rfl ?_
  refine a_sipush (pc := 5) dX9_footMany_5 (by decide) (by decide +kernel) ?_
  refine a_icmp_ge (tgt := 34) (pc := 8) dX9_footMany_8 (by decide) (fun hc1 => ?_) (fun hc1 => ?_)
  · replace h := h.1 hc1
    refine a_iload_n (pc := 34) dX9_footMany_34 rfl ?_
    refine a_iconst (pc := 35) dX9_footMany_35 (by decide) ?_
    have ho2 := h.1
    replace h := h.2
    refine a_idiv (pc := 36) dX9_footMany_36 ho2 (by decide) ?_
    exact a_ireti (pc := 37) dX9_footMany_37 rfl rfl (Nat.le_of_ble_eq_true rfl) ⟨rfl, h⟩
  · replace h := h.2 hc1
    refine a_iload_n (pc := 11) dX9_footMany_11 rfl ?_
    refine a_aload_n (pc := 12) dX9_footMany_12 (by decide) rfl ?_
    refine a_getR (y := 282) (pc := 13) dX9_footMany_13 fl_RX9_28 (by decide) s0_275 rfl rfl ?_
    refine a_iload_n (pc := 16) dX9_footMany_16 rfl ?_
    have ho3 := h.1
    replace h := h.2
    refine a_iald (pc := 17) dX9_footMany_17 (by decide) s0_282 ho3.1 ho3.2 ?_
    refine a_if_le (tgt := 25) (pc := 18) dX9_footMany_18 (by decide) (fun hc4 => ?_) (fun hc4 => ?_)
    · replace h := h.1 hc4
      refine a_iconst (pc := 25) dX9_footMany_25 (by decide) ?_
      have ho5 := h.1
      replace h := h.2
      refine a_iadd (pc := 26) dX9_footMany_26 ho5 ?_
      refine a_istore_n (ls1 := [(2, 275), (0, l1 + 0), (0, l2)]) (pc := 27) dX9_footMany_27 (by decide) (hp1 (t := 2) rfl (by decide)) rfl ?_
      have ho6 := h.1
      replace h := h.2
      refine a_iinc (ls1 := [(2, 275), (0, l1 + 0), (0, l2 + 1)]) (pc := 28) dX9_footMany_28 rfl (by decide) (hp1 (t := 0) rfl (by decide)) ho6 rfl ?_
      refine a_goto (tgt := 4) (pc := 31) dX9_footMany_31 (by decide) ?_
      exact h
    · replace h := h.2 hc4
      refine a_iconst (pc := 21) dX9_footMany_21 (by decide) ?_
      refine a_goto (tgt := 26) (pc := 22) dX9_footMany_22 (by decide) ?_
      have ho7 := h.1
      replace h := h.2
      refine a_iadd (pc := 26) dX9_footMany_26 ho7 ?_
      refine a_istore_n (ls1 := [(2, 275), (0, l1 + 1), (0, l2)]) (pc := 27) dX9_footMany_27 (by decide) (hp1 (t := 2) rfl (by decide)) rfl ?_
      have ho8 := h.1
      replace h := h.2
      refine a_iinc (ls1 := [(2, 275), (0, l1 + 1), (0, l2 + 1)]) (pc := 28) dX9_footMany_28 rfl (by decide) (hp1 (t := 0) rfl (by decide)) ho8 rfl ?_
      refine a_goto (tgt := 4) (pc := 31) dX9_footMany_31 (by decide) ?_
      exact h
theorem E_R_footMany {M : Mem} {Q : Int → Mem → Prop} (h : AW mX9_footMany 0 [(2, 275), (9, 0), (9, 0)] M Q) : Calls mX9_footMany [(2, 275)] S0 M Q := calls_of (by decide) (by decide) (Nat.le_of_ble_eq_true rfl) rfl h
set_option maxRecDepth 100000 in
set_option maxHeartbeats 4000000 in
theorem B_R_ofLeg_0 {l1 l2 : Int} {M : Mem} {Q : Int → Mem → Prop} (h : ((l2 < 0 ∨ 4 < l2 → ((0 : Int) ≤ l1 ∧ l1 < 16) ∧ Q (M 290 l1) M) ∧ (l2 = 0 → ((0 : Int) ≤ l1 ∧ l1 < 16) ∧ Q (M 285 l1) M) ∧ (l2 = 1 → ((0 : Int) ≤ l1 ∧ l1 < 16) ∧ Q (M 286 l1) M) ∧ (l2 = 2 → ((0 : Int) ≤ l1 ∧ l1 < 16) ∧ Q (M 287 l1) M) ∧ (l2 = 3 → ((0 : Int) ≤ l1 ∧ l1 < 16) ∧ Q (M 288 l1) M) ∧ (l2 = 4 → ((0 : Int) ≤ l1 ∧ l1 < 16) ∧ Q (M 289 l1) M))) : AW mX9_ofLeg 0 [(2, 275), (0, l1), (0, l2)] M Q := by
  refine a_iload_n (pc := 0) dX9_ofLeg_0 rfl ?_
  rcases (show l2 < 0 ∨ 4 < l2 ∨ l2 = 0 ∨ l2 = 1 ∨ l2 = 2 ∨ l2 = 3 ∨ l2 = 4 by omega) with hc | hc | hc | hc | hc | hc | hc
  · replace h := h.1 (by omega)
    refine a_tabOut (tgt := 71) (pc := 1) dX9_ofLeg_1 (by omega) (by decide) ?_
    refine a_aload_n (pc := 71) dX9_ofLeg_71 (by decide) rfl ?_
    refine a_getR (y := 290) (pc := 72) dX9_ofLeg_72 fl_RX9_59 (by decide) s0_275 rfl rfl ?_
    refine a_iload_n (pc := 75) dX9_ofLeg_75 rfl ?_
    have ho1 := h.1
    replace h := h.2
    refine a_iald (pc := 76) dX9_ofLeg_76 (by decide) s0_290 ho1.1 ho1.2 ?_
    exact a_ireti (pc := 77) dX9_ofLeg_77 rfl rfl (Nat.le_of_ble_eq_true rfl) ⟨rfl, h⟩
  · replace h := h.1 (by omega)
    refine a_tabOut (tgt := 71) (pc := 1) dX9_ofLeg_1 (by omega) (by decide) ?_
    refine a_aload_n (pc := 71) dX9_ofLeg_71 (by decide) rfl ?_
    refine a_getR (y := 290) (pc := 72) dX9_ofLeg_72 fl_RX9_59 (by decide) s0_275 rfl rfl ?_
    refine a_iload_n (pc := 75) dX9_ofLeg_75 rfl ?_
    have ho1 := h.1
    replace h := h.2
    refine a_iald (pc := 76) dX9_ofLeg_76 (by decide) s0_290 ho1.1 ho1.2 ?_
    exact a_ireti (pc := 77) dX9_ofLeg_77 rfl rfl (Nat.le_of_ble_eq_true rfl) ⟨rfl, h⟩
  · replace h := h.2.1 hc
    refine a_tabIn (v := 0) (off := 35) (tgt := 36) (pc := 1) dX9_ofLeg_1 hc (by decide) (by decide) rfl (by decide) ?_
    refine a_aload_n (pc := 36) dX9_ofLeg_36 (by decide) rfl ?_
    refine a_getR (y := 285) (pc := 37) dX9_ofLeg_37 fl_RX9_44 (by decide) s0_275 rfl rfl ?_
    refine a_iload_n (pc := 40) dX9_ofLeg_40 rfl ?_
    have ho2 := h.1
    replace h := h.2
    refine a_iald (pc := 41) dX9_ofLeg_41 (by decide) s0_285 ho2.1 ho2.2 ?_
    exact a_ireti (pc := 42) dX9_ofLeg_42 rfl rfl (Nat.le_of_ble_eq_true rfl) ⟨rfl, h⟩
  · replace h := h.2.2.1 hc
    refine a_tabIn (v := 1) (off := 42) (tgt := 43) (pc := 1) dX9_ofLeg_1 hc (by decide) (by decide) rfl (by decide) ?_
    refine a_aload_n (pc := 43) dX9_ofLeg_43 (by decide) rfl ?_
    refine a_getR (y := 286) (pc := 44) dX9_ofLeg_44 fl_RX9_47 (by decide) s0_275 rfl rfl ?_
    refine a_iload_n (pc := 47) dX9_ofLeg_47 rfl ?_
    have ho3 := h.1
    replace h := h.2
    refine a_iald (pc := 48) dX9_ofLeg_48 (by decide) s0_286 ho3.1 ho3.2 ?_
    exact a_ireti (pc := 49) dX9_ofLeg_49 rfl rfl (Nat.le_of_ble_eq_true rfl) ⟨rfl, h⟩
  · replace h := h.2.2.2.1 hc
    refine a_tabIn (v := 2) (off := 49) (tgt := 50) (pc := 1) dX9_ofLeg_1 hc (by decide) (by decide) rfl (by decide) ?_
    refine a_aload_n (pc := 50) dX9_ofLeg_50 (by decide) rfl ?_
    refine a_getR (y := 287) (pc := 51) dX9_ofLeg_51 fl_RX9_50 (by decide) s0_275 rfl rfl ?_
    refine a_iload_n (pc := 54) dX9_ofLeg_54 rfl ?_
    have ho4 := h.1
    replace h := h.2
    refine a_iald (pc := 55) dX9_ofLeg_55 (by decide) s0_287 ho4.1 ho4.2 ?_
    exact a_ireti (pc := 56) dX9_ofLeg_56 rfl rfl (Nat.le_of_ble_eq_true rfl) ⟨rfl, h⟩
  · replace h := h.2.2.2.2.1 hc
    refine a_tabIn (v := 3) (off := 56) (tgt := 57) (pc := 1) dX9_ofLeg_1 hc (by decide) (by decide) rfl (by decide) ?_
    refine a_aload_n (pc := 57) dX9_ofLeg_57 (by decide) rfl ?_
    refine a_getR (y := 288) (pc := 58) dX9_ofLeg_58 fl_RX9_53 (by decide) s0_275 rfl rfl ?_
    refine a_iload_n (pc := 61) dX9_ofLeg_61 rfl ?_
    have ho5 := h.1
    replace h := h.2
    refine a_iald (pc := 62) dX9_ofLeg_62 (by decide) s0_288 ho5.1 ho5.2 ?_
    exact a_ireti (pc := 63) dX9_ofLeg_63 rfl rfl (Nat.le_of_ble_eq_true rfl) ⟨rfl, h⟩
  · replace h := h.2.2.2.2.2 hc
    refine a_tabIn (v := 4) (off := 63) (tgt := 64) (pc := 1) dX9_ofLeg_1 hc (by decide) (by decide) rfl (by decide) ?_
    refine a_aload_n (pc := 64) dX9_ofLeg_64 (by decide) rfl ?_
    refine a_getR (y := 289) (pc := 65) dX9_ofLeg_65 fl_RX9_56 (by decide) s0_275 rfl rfl ?_
    refine a_iload_n (pc := 68) dX9_ofLeg_68 rfl ?_
    have ho6 := h.1
    replace h := h.2
    refine a_iald (pc := 69) dX9_ofLeg_69 (by decide) s0_289 ho6.1 ho6.2 ?_
    exact a_ireti (pc := 70) dX9_ofLeg_70 rfl rfl (Nat.le_of_ble_eq_true rfl) ⟨rfl, h⟩
theorem E_R_ofLeg {l1 l2 : Int} {M : Mem} {Q : Int → Mem → Prop} (h : AW mX9_ofLeg 0 [(2, 275), (0, l1), (0, l2)] M Q) : Calls mX9_ofLeg [(2, 275), (0, l1), (0, l2)] S0 M Q := calls_of (by decide) (by decide) (Nat.le_of_ble_eq_true rfl) rfl h
set_option maxRecDepth 100000 in
set_option maxHeartbeats 4000000 in
theorem B_R_putWalk_0 {l1 l2 l3 : Int} {M : Mem} {Q : Int → Mem → Prop} (h : ((0 : Int) ≤ M 275 14 ∧ M 275 14 < 16) ∧ (-2147483648 ≤ 12 * l1 ∧ 12 * l1 ≤ 2147483647) ∧ (-2147483648 ≤ (12 * l1) + l2 ∧ (12 * l1) + l2 ≤ 2147483647) ∧ ((0 : Int) ≤ (12 * l1) + l2 ∧ (12 * l1) + l2 < 144) ∧ (-2147483648 ≤ l3 - (M 282 ((12 * l1) + l2)) ∧ l3 - (M 282 ((12 * l1) + l2)) ≤ 2147483647) ∧ (-2147483648 ≤ (M 275 14) + 1 ∧ (M 275 14) + 1 ≤ 2147483647) ∧ Q 0 (up2 (up2 (up2 (up2 (up2 (up2 (up2 (up2 M 285 (M 275 14) (-5)) 286 (M 275 14) (-5)) 287 (M 275 14) l1) 288 (M 275 14) l2) 289 (M 275 14) (l3 - (M 282 ((12 * l1) + l2)))) 290 (M 275 14) l3) 291 (M 275 14) 0) 275 14 ((M 275 14) + 1))) : AW mX9_putWalk 0 [(2, 275), (0, l1), (0, l2), (0, l3), (9, 0)] M Q := by
  refine a_aload_n (pc := 0) dX9_putWalk_0 (by decide) rfl ?_
  refine a_getI (y := 14) (pc := 1) dX9_putWalk_1 fl_RX9_155 (by decide) s0_275 (Or.inl rfl) rfl ?_
  refine a_istore (ls1 := [(2, 275), (0, l1), (0, l2), (0, l3), (0, M 275 14)]) (pc := 4) dX9_putWalk_4 (by decide) (hp1 (t := 0) rfl (by decide)) rfl ?_
  refine a_aload_n (pc := 6) dX9_putWalk_6 (by decide) rfl ?_
  refine a_getR (y := 285) (pc := 7) dX9_putWalk_7 fl_RX9_44 (by decide) s0_275 rfl rfl ?_
  refine a_iload (pc := 10) dX9_putWalk_10 rfl ?_
  refine a_bipush (pc := 12) dX9_putWalk_12 (by decide) (by decide +kernel) ?_
  have ho1 := h.1
  replace h := h.2
  refine a_iast (pc := 14) dX9_putWalk_14 (by decide) s0_285 ho1.1 ho1.2 ?_
  refine a_aload_n (pc := 15) dX9_putWalk_15 (by decide) rfl ?_
  refine a_getR (y := 286) (pc := 16) dX9_putWalk_16 fl_RX9_47 (by decide) s0_275 rfl rfl ?_
  refine a_iload (pc := 19) dX9_putWalk_19 rfl ?_
  refine a_bipush (pc := 21) dX9_putWalk_21 (by decide) (by decide +kernel) ?_
  refine a_iast (pc := 23) dX9_putWalk_23 (by decide) s0_286 ho1.1 ho1.2 ?_
  refine a_aload_n (pc := 24) dX9_putWalk_24 (by decide) rfl ?_
  refine a_getR (y := 287) (pc := 25) dX9_putWalk_25 fl_RX9_50 (by decide) s0_275 rfl rfl ?_
  refine a_iload (pc := 28) dX9_putWalk_28 rfl ?_
  refine a_iload_n (pc := 30) dX9_putWalk_30 rfl ?_
  refine a_iast (pc := 31) dX9_putWalk_31 (by decide) s0_287 ho1.1 ho1.2 ?_
  refine a_aload_n (pc := 32) dX9_putWalk_32 (by decide) rfl ?_
  refine a_getR (y := 288) (pc := 33) dX9_putWalk_33 fl_RX9_53 (by decide) s0_275 rfl rfl ?_
  refine a_iload (pc := 36) dX9_putWalk_36 rfl ?_
  refine a_iload_n (pc := 38) dX9_putWalk_38 rfl ?_
  refine a_iast (pc := 39) dX9_putWalk_39 (by decide) s0_288 ho1.1 ho1.2 ?_
  refine a_aload_n (pc := 40) dX9_putWalk_40 (by decide) rfl ?_
  refine a_getR (y := 289) (pc := 41) dX9_putWalk_41 fl_RX9_56 (by decide) s0_275 rfl rfl ?_
  refine a_iload (pc := 44) dX9_putWalk_44 rfl ?_
  refine a_iload_n (pc := 46) dX9_putWalk_46 rfl ?_
  refine a_aload_n (pc := 47) dX9_putWalk_47 (by decide) rfl ?_
  refine a_getR (y := 282) (pc := 48) dX9_putWalk_48 fl_RX9_28 (by decide) s0_275 rfl rfl ?_
  refine a_bipush (pc := 51) dX9_putWalk_51 (by decide) (by decide +kernel) ?_
  refine a_iload_n (pc := 53) dX9_putWalk_53 rfl ?_
  have ho2 := h.1
  replace h := h.2
  refine a_imul (pc := 54) dX9_putWalk_54 ho2 ?_
  refine a_iload_n (pc := 55) dX9_putWalk_55 rfl ?_
  have ho3 := h.1
  replace h := h.2
  refine a_iadd (pc := 56) dX9_putWalk_56 ho3 ?_
  have ho4 := h.1
  replace h := h.2
  refine a_iald (pc := 57) dX9_putWalk_57 (by decide) s0_282 ho4.1 ho4.2 ?_
  refine a_eq (y := M 282 ((12 * l1) + l2)) rfl ?_
  have ho5 := h.1
  replace h := h.2
  refine a_isub (pc := 58) dX9_putWalk_58 ho5 ?_
  refine a_iast (pc := 59) dX9_putWalk_59 (by decide) s0_289 ho1.1 ho1.2 ?_
  refine a_aload_n (pc := 60) dX9_putWalk_60 (by decide) rfl ?_
  refine a_getR (y := 290) (pc := 61) dX9_putWalk_61 fl_RX9_59 (by decide) s0_275 rfl rfl ?_
  refine a_iload (pc := 64) dX9_putWalk_64 rfl ?_
  refine a_iload_n (pc := 66) dX9_putWalk_66 rfl ?_
  refine a_iast (pc := 67) dX9_putWalk_67 (by decide) s0_290 ho1.1 ho1.2 ?_
  refine a_aload_n (pc := 68) dX9_putWalk_68 (by decide) rfl ?_
  refine a_getR (y := 291) (pc := 69) dX9_putWalk_69 fl_RX9_62 (by decide) s0_275 rfl rfl ?_
  refine a_iload (pc := 72) dX9_putWalk_72 rfl ?_
  refine a_iconst (pc := 74) dX9_putWalk_74 (by decide) ?_
  refine a_iast (pc := 75) dX9_putWalk_75 (by decide) s0_291 ho1.1 ho1.2 ?_
  refine a_aload_n (pc := 76) dX9_putWalk_76 (by decide) rfl ?_
  refine a_dup (pc := 77) dX9_putWalk_77 n21 ?_
  refine a_getI (y := 14) (pc := 78) dX9_putWalk_78 fl_RX9_155 (by decide) s0_275 (Or.inl rfl) rfl ?_
  refine a_eq (y := M 275 14) rfl ?_
  refine a_iconst (pc := 81) dX9_putWalk_81 (by decide) ?_
  have ho6 := h.1
  replace h := h.2
  refine a_iadd (pc := 82) dX9_putWalk_82 ho6 ?_
  refine a_putI (y := 14) (pc := 83) dX9_putWalk_83 fl_RX9_155 (by decide) s0_275 rfl rfl (tyX9_ok 14 (by decide)) rfl ?_
  exact a_vret (pc := 86) dX9_putWalk_86 rfl rfl (Nat.le_of_ble_eq_true rfl) ⟨rfl, h⟩
theorem E_R_putWalk {l1 l2 l3 : Int} {M : Mem} {Q : Int → Mem → Prop} (h : AW mX9_putWalk 0 [(2, 275), (0, l1), (0, l2), (0, l3), (9, 0)] M Q) : Calls mX9_putWalk [(2, 275), (0, l1), (0, l2), (0, l3)] S0 M Q := calls_of (by decide) (by decide) (Nat.le_of_ble_eq_true rfl) rfl h
set_option maxRecDepth 100000 in
set_option maxHeartbeats 4000000 in
theorem B_R_isRunning_0 {l1 l2 : Int} {M : Mem} {Q : Int → Mem → Prop} (h : (-2147483648 ≤ 6 * l1 ∧ 6 * l1 ≤ 2147483647) ∧ (-2147483648 ≤ (6 * l1) + l2 ∧ (6 * l1) + l2 ≤ 2147483647) ∧ ((0 : Int) ≤ (6 * l1) + l2 ∧ (6 * l1) + l2 < 48) ∧ ((0 : Int) ≤ l1 ∧ l1 < 8) ∧ (((M 276 l1) < 1 ∨ 5 < (M 276 l1) → Q 1 M) ∧ ((M 276 l1) = 1 → ((1300 ≤ (M 280 ((6 * l1) + l2)) → Q 0 M) ∧ (¬ (1300 ≤ (M 280 ((6 * l1) + l2))) → Q 1 M))) ∧ ((M 276 l1) = 2 → (((M 280 ((6 * l1) + l2)) < 300 → Q 1 M) ∧ (¬ ((M 280 ((6 * l1) + l2)) < 300) → (((M 280 ((6 * l1) + l2)) < 1200 → Q 0 M) ∧ (¬ ((M 280 ((6 * l1) + l2)) < 1200) → Q 1 M))))) ∧ ((M 276 l1) = 3 → (((M 280 ((6 * l1) + l2)) < 300 → Q 1 M) ∧ (¬ ((M 280 ((6 * l1) + l2)) < 300) → (((M 280 ((6 * l1) + l2)) < 1200 → ((0 : Int) ≤ M 280 ((6 * l1) + l2)) ∧ ((¬ ((M 280 ((6 * l1) + l2)) % 60) = 0 → Q 0 M) ∧ (((M 280 ((6 * l1) + l2)) % 60) = 0 → Q 1 M))) ∧ (¬ ((M 280 ((6 * l1) + l2)) < 1200) → Q 1 M))))) ∧ ((M 276 l1) = 4 → ((1300 ≤ (M 280 ((6 * l1) + l2)) → Q 0 M) ∧ (¬ (1300 ≤ (M 280 ((6 * l1) + l2))) → (((M 280 ((6 * l1) + l2)) < 400 → Q 0 M) ∧ (¬ ((M 280 ((6 * l1) + l2)) < 400) → Q 1 M))))) ∧ ((M 276 l1) = 5 → (((M 280 ((6 * l1) + l2)) < 300 → Q 1 M) ∧ (¬ ((M 280 ((6 * l1) + l2)) < 300) → (((M 280 ((6 * l1) + l2)) < 1200 → ((0 : Int) ≤ M 280 ((6 * l1) + l2)) ∧ ((¬ ((M 280 ((6 * l1) + l2)) % 60) = 0 → Q 0 M) ∧ (((M 280 ((6 * l1) + l2)) % 60) = 0 → Q 1 M))) ∧ (¬ ((M 280 ((6 * l1) + l2)) < 1200) → Q 1 M))))))) : AW mX9_isRunning 0 [(2, 275), (0, l1), (0, l2), (9, 0)] M Q := by
  refine a_aload_n (pc := 0) dX9_isRunning_0 (by decide) rfl ?_
  refine a_getR (y := 280) (pc := 1) dX9_isRunning_1 fl_RX9_22 (by decide) s0_275 rfl rfl ?_
  refine a_bipush (pc := 4) dX9_isRunning_4 (by decide) (by decide +kernel) ?_
  refine a_iload_n (pc := 6) dX9_isRunning_6 rfl ?_
  have ho1 := h.1
  replace h := h.2
  refine a_imul (pc := 7) dX9_isRunning_7 ho1 ?_
  refine a_iload_n (pc := 8) dX9_isRunning_8 rfl ?_
  have ho2 := h.1
  replace h := h.2
  refine a_iadd (pc := 9) dX9_isRunning_9 ho2 ?_
  have ho3 := h.1
  replace h := h.2
  refine a_iald (pc := 10) dX9_isRunning_10 (by decide) s0_280 ho3.1 ho3.2 ?_
  refine a_istore_n (ls1 := [(2, 275), (0, l1), (0, l2), (0, M 280 ((6 * l1) + l2))]) (pc := 11) dX9_isRunning_11 (by decide) (hp1 (t := 0) rfl (by decide)) rfl ?_
  refine a_aload_n (pc := 12) dX9_isRunning_12 (by decide) rfl ?_
  refine a_getR (y := 276) (pc := 13) dX9_isRunning_13 fl_RX9_7 (by decide) s0_275 rfl rfl ?_
  refine a_iload_n (pc := 16) dX9_isRunning_16 rfl ?_
  have ho4 := h.1
  replace h := h.2
  refine a_iald (pc := 17) dX9_isRunning_17 (by decide) s0_276 ho4.1 ho4.2 ?_
  rcases (show (M 276 l1) < 1 ∨ 5 < (M 276 l1) ∨ (M 276 l1) = 1 ∨ (M 276 l1) = 2 ∨ (M 276 l1) = 3 ∨ (M 276 l1) = 4 ∨ (M 276 l1) = 5 by omega) with hc | hc | hc | hc | hc | hc | hc
  · replace h := h.1 (by omega)
    refine a_tabOut (tgt := 110) (pc := 18) dX9_isRunning_18 (by omega) (by decide) ?_
    refine a_iconst (pc := 110) dX9_isRunning_110 (by decide) ?_
    exact a_iretz (pc := 111) dX9_isRunning_111 rfl rfl (Nat.le_of_ble_eq_true rfl) (by decide) ⟨rfl, h⟩
  · replace h := h.1 (by omega)
    refine a_tabOut (tgt := 110) (pc := 18) dX9_isRunning_18 (by omega) (by decide) ?_
    refine a_iconst (pc := 110) dX9_isRunning_110 (by decide) ?_
    exact a_iretz (pc := 111) dX9_isRunning_111 rfl rfl (Nat.le_of_ble_eq_true rfl) (by decide) ⟨rfl, h⟩
  · replace h := h.2.1 hc
    refine a_tabIn (v := 1) (off := 34) (tgt := 52) (pc := 18) dX9_isRunning_18 hc (by decide) (by decide) rfl (by decide) ?_
    refine a_iload_n (pc := 52) dX9_isRunning_52 rfl ?_
    refine a_sipush (pc := 53) dX9_isRunning_53 (by decide) (by decide +kernel) ?_
    refine a_icmp_ge (tgt := 63) (pc := 56) dX9_isRunning_56 (by decide) (fun hc5 => ?_) (fun hc5 => ?_)
    · replace h := h.1 hc5
      refine a_iconst (pc := 63) dX9_isRunning_63 (by decide) ?_
      exact a_iretz (pc := 64) dX9_isRunning_64 rfl rfl (Nat.le_of_ble_eq_true rfl) (by decide) ⟨rfl, h⟩
    · replace h := h.2 hc5
      refine a_iconst (pc := 59) dX9_isRunning_59 (by decide) ?_
      refine a_goto (tgt := 64) (pc := 60) dX9_isRunning_60 (by decide) ?_
      exact a_iretz (pc := 64) dX9_isRunning_64 rfl rfl (Nat.le_of_ble_eq_true rfl) (by decide) ⟨rfl, h⟩
  · replace h := h.2.2.1 hc
    refine a_tabIn (v := 2) (off := 47) (tgt := 65) (pc := 18) dX9_isRunning_18 hc (by decide) (by decide) rfl (by decide) ?_
    refine a_iload_n (pc := 65) dX9_isRunning_65 rfl ?_
    refine p_inlS (Ex := _) (As := [(0, M 280 ((6 * l1) + l2))]) (st := []) (st1 := fun r => [(0, r)])  (pc := 66) dX9_isRunning_66 ml_RX9_105 (by decide) (Nat.le_of_ble_eq_true rfl) rfl (fun _ => rfl) (by decide) (by decide) (Nat.le_of_ble_eq_true rfl) rfl ?_
    refine a_iload_n (pc := 0) dX9_isNight_0 rfl ?_
    refine a_sipush (pc := 1) dX9_isNight_1 (by decide) (by decide +kernel) ?_
    refine a_icmp_lt (tgt := 14) (pc := 4) dX9_isNight_4 (by decide) (fun hc6 => ?_) (fun hc6 => ?_)
    · replace h := h.1 hc6
      refine a_iconst (pc := 14) dX9_isNight_14 (by decide) ?_
      refine a_goto (tgt := 19) (pc := 15) dX9_isNight_15 (by decide) ?_
      refine a_iretz (pc := 19) dX9_isNight_19 rfl rfl (Nat.le_of_ble_eq_true rfl) (by decide) ⟨rfl, ?_⟩
      exact a_iretz (pc := 69) dX9_isRunning_69 rfl rfl (Nat.le_of_ble_eq_true rfl) (by decide) ⟨rfl, h⟩
    · replace h := h.2 hc6
      refine a_iload_n (pc := 7) dX9_isNight_7 rfl ?_
      refine a_sipush (pc := 8) dX9_isNight_8 (by decide) (by decide +kernel) ?_
      refine a_icmp_lt (tgt := 18) (pc := 11) dX9_isNight_11 (by decide) (fun hc7 => ?_) (fun hc7 => ?_)
      · replace h := h.1 hc7
        refine a_iconst (pc := 18) dX9_isNight_18 (by decide) ?_
        refine a_iretz (pc := 19) dX9_isNight_19 rfl rfl (Nat.le_of_ble_eq_true rfl) (by decide) ⟨rfl, ?_⟩
        exact a_iretz (pc := 69) dX9_isRunning_69 rfl rfl (Nat.le_of_ble_eq_true rfl) (by decide) ⟨rfl, h⟩
      · replace h := h.2 hc7
        refine a_iconst (pc := 14) dX9_isNight_14 (by decide) ?_
        refine a_goto (tgt := 19) (pc := 15) dX9_isNight_15 (by decide) ?_
        refine a_iretz (pc := 19) dX9_isNight_19 rfl rfl (Nat.le_of_ble_eq_true rfl) (by decide) ⟨rfl, ?_⟩
        exact a_iretz (pc := 69) dX9_isRunning_69 rfl rfl (Nat.le_of_ble_eq_true rfl) (by decide) ⟨rfl, h⟩
  · replace h := h.2.2.2.1 hc
    refine a_tabIn (v := 3) (off := 52) (tgt := 70) (pc := 18) dX9_isRunning_18 hc (by decide) (by decide) rfl (by decide) ?_
    refine a_iload_n (pc := 70) dX9_isRunning_70 rfl ?_
    refine p_inlS (Ex := _) (As := [(0, M 280 ((6 * l1) + l2))]) (st := []) (st1 := fun r => [(0, r)])  (pc := 71) dX9_isRunning_71 ml_RX9_105 (by decide) (Nat.le_of_ble_eq_true rfl) rfl (fun _ => rfl) (by decide) (by decide) (Nat.le_of_ble_eq_true rfl) rfl ?_
    refine a_iload_n (pc := 0) dX9_isNight_0 rfl ?_
    refine a_sipush (pc := 1) dX9_isNight_1 (by decide) (by decide +kernel) ?_
    refine a_icmp_lt (tgt := 14) (pc := 4) dX9_isNight_4 (by decide) (fun hc8 => ?_) (fun hc8 => ?_)
    · replace h := h.1 hc8
      refine a_iconst (pc := 14) dX9_isNight_14 (by decide) ?_
      refine a_goto (tgt := 19) (pc := 15) dX9_isNight_15 (by decide) ?_
      refine a_iretz (pc := 19) dX9_isNight_19 rfl rfl (Nat.le_of_ble_eq_true rfl) (by decide) ⟨rfl, ?_⟩
      refine a_if_ne (tgt := 84) (pc := 74) dX9_isRunning_74 (by decide) (fun _ => ?_) (fun hc => absurd hc (by decide))
      refine a_iconst (pc := 84) dX9_isRunning_84 (by decide) ?_
      refine a_goto (tgt := 89) (pc := 85) dX9_isRunning_85 (by decide) ?_
      exact a_iretz (pc := 89) dX9_isRunning_89 rfl rfl (Nat.le_of_ble_eq_true rfl) (by decide) ⟨rfl, h⟩
    · replace h := h.2 hc8
      refine a_iload_n (pc := 7) dX9_isNight_7 rfl ?_
      refine a_sipush (pc := 8) dX9_isNight_8 (by decide) (by decide +kernel) ?_
      refine a_icmp_lt (tgt := 18) (pc := 11) dX9_isNight_11 (by decide) (fun hc9 => ?_) (fun hc9 => ?_)
      · replace h := h.1 hc9
        refine a_iconst (pc := 18) dX9_isNight_18 (by decide) ?_
        refine a_iretz (pc := 19) dX9_isNight_19 rfl rfl (Nat.le_of_ble_eq_true rfl) (by decide) ⟨rfl, ?_⟩
        refine a_if_ne (tgt := 84) (pc := 74) dX9_isRunning_74 (by decide) (fun hc => absurd rfl hc) (fun _ => ?_)
        refine a_iload_n (pc := 77) dX9_isRunning_77 rfl ?_
        refine a_bipush (pc := 78) dX9_isRunning_78 (by decide) (by decide +kernel) ?_
        have ho10 := h.1
        replace h := h.2
        refine a_irem (pc := 80) dX9_isRunning_80 ho10 (by decide) ?_
        refine a_if_ne (tgt := 88) (pc := 81) dX9_isRunning_81 (by decide) (fun hc11 => ?_) (fun hc11 => ?_)
        · replace h := h.1 hc11
          refine a_iconst (pc := 88) dX9_isRunning_88 (by decide) ?_
          exact a_iretz (pc := 89) dX9_isRunning_89 rfl rfl (Nat.le_of_ble_eq_true rfl) (by decide) ⟨rfl, h⟩
        · replace h := h.2 hc11
          refine a_iconst (pc := 84) dX9_isRunning_84 (by decide) ?_
          refine a_goto (tgt := 89) (pc := 85) dX9_isRunning_85 (by decide) ?_
          exact a_iretz (pc := 89) dX9_isRunning_89 rfl rfl (Nat.le_of_ble_eq_true rfl) (by decide) ⟨rfl, h⟩
      · replace h := h.2 hc9
        refine a_iconst (pc := 14) dX9_isNight_14 (by decide) ?_
        refine a_goto (tgt := 19) (pc := 15) dX9_isNight_15 (by decide) ?_
        refine a_iretz (pc := 19) dX9_isNight_19 rfl rfl (Nat.le_of_ble_eq_true rfl) (by decide) ⟨rfl, ?_⟩
        refine a_if_ne (tgt := 84) (pc := 74) dX9_isRunning_74 (by decide) (fun _ => ?_) (fun hc => absurd hc (by decide))
        refine a_iconst (pc := 84) dX9_isRunning_84 (by decide) ?_
        refine a_goto (tgt := 89) (pc := 85) dX9_isRunning_85 (by decide) ?_
        exact a_iretz (pc := 89) dX9_isRunning_89 rfl rfl (Nat.le_of_ble_eq_true rfl) (by decide) ⟨rfl, h⟩
  · replace h := h.2.2.2.2.1 hc
    refine a_tabIn (v := 4) (off := 72) (tgt := 90) (pc := 18) dX9_isRunning_18 hc (by decide) (by decide) rfl (by decide) ?_
    refine a_iload_n (pc := 90) dX9_isRunning_90 rfl ?_
    refine a_sipush (pc := 91) dX9_isRunning_91 (by decide) (by decide +kernel) ?_
    refine a_icmp_ge (tgt := 108) (pc := 94) dX9_isRunning_94 (by decide) (fun hc12 => ?_) (fun hc12 => ?_)
    · replace h := h.1 hc12
      refine a_iconst (pc := 108) dX9_isRunning_108 (by decide) ?_
      exact a_iretz (pc := 109) dX9_isRunning_109 rfl rfl (Nat.le_of_ble_eq_true rfl) (by decide) ⟨rfl, h⟩
    · replace h := h.2 hc12
      refine a_iload_n (pc := 97) dX9_isRunning_97 rfl ?_
      refine a_sipush (pc := 98) dX9_isRunning_98 (by decide) (by decide +kernel) ?_
      refine a_icmp_lt (tgt := 108) (pc := 101) dX9_isRunning_101 (by decide) (fun hc13 => ?_) (fun hc13 => ?_)
      · replace h := h.1 hc13
        refine a_iconst (pc := 108) dX9_isRunning_108 (by decide) ?_
        exact a_iretz (pc := 109) dX9_isRunning_109 rfl rfl (Nat.le_of_ble_eq_true rfl) (by decide) ⟨rfl, h⟩
      · replace h := h.2 hc13
        refine a_iconst (pc := 104) dX9_isRunning_104 (by decide) ?_
        refine a_goto (tgt := 109) (pc := 105) dX9_isRunning_105 (by decide) ?_
        exact a_iretz (pc := 109) dX9_isRunning_109 rfl rfl (Nat.le_of_ble_eq_true rfl) (by decide) ⟨rfl, h⟩
  · replace h := h.2.2.2.2.2 hc
    refine a_tabIn (v := 5) (off := 52) (tgt := 70) (pc := 18) dX9_isRunning_18 hc (by decide) (by decide) rfl (by decide) ?_
    refine a_iload_n (pc := 70) dX9_isRunning_70 rfl ?_
    refine p_inlS (Ex := _) (As := [(0, M 280 ((6 * l1) + l2))]) (st := []) (st1 := fun r => [(0, r)])  (pc := 71) dX9_isRunning_71 ml_RX9_105 (by decide) (Nat.le_of_ble_eq_true rfl) rfl (fun _ => rfl) (by decide) (by decide) (Nat.le_of_ble_eq_true rfl) rfl ?_
    refine a_iload_n (pc := 0) dX9_isNight_0 rfl ?_
    refine a_sipush (pc := 1) dX9_isNight_1 (by decide) (by decide +kernel) ?_
    refine a_icmp_lt (tgt := 14) (pc := 4) dX9_isNight_4 (by decide) (fun hc14 => ?_) (fun hc14 => ?_)
    · replace h := h.1 hc14
      refine a_iconst (pc := 14) dX9_isNight_14 (by decide) ?_
      refine a_goto (tgt := 19) (pc := 15) dX9_isNight_15 (by decide) ?_
      refine a_iretz (pc := 19) dX9_isNight_19 rfl rfl (Nat.le_of_ble_eq_true rfl) (by decide) ⟨rfl, ?_⟩
      refine a_if_ne (tgt := 84) (pc := 74) dX9_isRunning_74 (by decide) (fun _ => ?_) (fun hc => absurd hc (by decide))
      refine a_iconst (pc := 84) dX9_isRunning_84 (by decide) ?_
      refine a_goto (tgt := 89) (pc := 85) dX9_isRunning_85 (by decide) ?_
      exact a_iretz (pc := 89) dX9_isRunning_89 rfl rfl (Nat.le_of_ble_eq_true rfl) (by decide) ⟨rfl, h⟩
    · replace h := h.2 hc14
      refine a_iload_n (pc := 7) dX9_isNight_7 rfl ?_
      refine a_sipush (pc := 8) dX9_isNight_8 (by decide) (by decide +kernel) ?_
      refine a_icmp_lt (tgt := 18) (pc := 11) dX9_isNight_11 (by decide) (fun hc15 => ?_) (fun hc15 => ?_)
      · replace h := h.1 hc15
        refine a_iconst (pc := 18) dX9_isNight_18 (by decide) ?_
        refine a_iretz (pc := 19) dX9_isNight_19 rfl rfl (Nat.le_of_ble_eq_true rfl) (by decide) ⟨rfl, ?_⟩
        refine a_if_ne (tgt := 84) (pc := 74) dX9_isRunning_74 (by decide) (fun hc => absurd rfl hc) (fun _ => ?_)
        refine a_iload_n (pc := 77) dX9_isRunning_77 rfl ?_
        refine a_bipush (pc := 78) dX9_isRunning_78 (by decide) (by decide +kernel) ?_
        have ho16 := h.1
        replace h := h.2
        refine a_irem (pc := 80) dX9_isRunning_80 ho16 (by decide) ?_
        refine a_if_ne (tgt := 88) (pc := 81) dX9_isRunning_81 (by decide) (fun hc17 => ?_) (fun hc17 => ?_)
        · replace h := h.1 hc17
          refine a_iconst (pc := 88) dX9_isRunning_88 (by decide) ?_
          exact a_iretz (pc := 89) dX9_isRunning_89 rfl rfl (Nat.le_of_ble_eq_true rfl) (by decide) ⟨rfl, h⟩
        · replace h := h.2 hc17
          refine a_iconst (pc := 84) dX9_isRunning_84 (by decide) ?_
          refine a_goto (tgt := 89) (pc := 85) dX9_isRunning_85 (by decide) ?_
          exact a_iretz (pc := 89) dX9_isRunning_89 rfl rfl (Nat.le_of_ble_eq_true rfl) (by decide) ⟨rfl, h⟩
      · replace h := h.2 hc15
        refine a_iconst (pc := 14) dX9_isNight_14 (by decide) ?_
        refine a_goto (tgt := 19) (pc := 15) dX9_isNight_15 (by decide) ?_
        refine a_iretz (pc := 19) dX9_isNight_19 rfl rfl (Nat.le_of_ble_eq_true rfl) (by decide) ⟨rfl, ?_⟩
        refine a_if_ne (tgt := 84) (pc := 74) dX9_isRunning_74 (by decide) (fun _ => ?_) (fun hc => absurd hc (by decide))
        refine a_iconst (pc := 84) dX9_isRunning_84 (by decide) ?_
        refine a_goto (tgt := 89) (pc := 85) dX9_isRunning_85 (by decide) ?_
        exact a_iretz (pc := 89) dX9_isRunning_89 rfl rfl (Nat.le_of_ble_eq_true rfl) (by decide) ⟨rfl, h⟩
theorem E_R_isRunning {l1 l2 : Int} {M : Mem} {Q : Int → Mem → Prop} (h : AW mX9_isRunning 0 [(2, 275), (0, l1), (0, l2), (9, 0)] M Q) : Calls mX9_isRunning [(2, 275), (0, l1), (0, l2)] S0 M Q := calls_of (by decide) (by decide) (Nat.le_of_ble_eq_true rfl) rfl h
set_option maxRecDepth 100000 in
set_option maxHeartbeats 4000000 in
theorem B_R_carryAll_1_0 {l2 : Int} {M : Mem} {Q : Int → Mem → Prop} (h : (l2 = 0 ∨ l2 = 1) ∧ Calls mX9_carry [(2, 275), (0, M 275 0)] S0 (up2 (up2 (up2 M 275 35 293) 275 34 l2) 275 33 0) (fun r2 M3 => AW mX9_carryAll 29 [(2, 275), (9, 0), (9, 0), (0, 0)] (up2 M3 275 0 r2) Q)) : AW mX9_carryAll 0 [(2, 275), (2, 293), (0, l2), (9, 0)] M Q := by
  refine a_aload_n (pc := 0) dX9_carryAll_0 (by decide) rfl ?_
  refine a_aload_n (pc := 1) dX9_carryAll_1 (by decide) rfl ?_
  refine a_putD (y := 35) (pc := 2) dX9_carryAll_2 fl_RX9_240 (by decide) s0_275 rfl rfl (tyX9_ok 35 (by decide)) (fun _ => ⟨rfl, rfl⟩) (by decide) (by decide) rfl ?_
  refine a_aload_n (pc := 5) dX9_carryAll_5 (by decide) rfl ?_
  refine a_iload_n (pc := 6) dX9_carryAll_6 rfl ?_
  have ho1 := h.1
  replace h := h.2
  refine a_putZ (y := 34) (pc := 7) dX9_carryAll_7 fl_RX9_237 (by decide) s0_275 rfl rfl (tyX9_ok 34 (by decide)) rfl ho1 ?_
  refine a_aload_n (pc := 10) dX9_carryAll_10 (by decide) rfl ?_
  refine a_iconst (pc := 11) dX9_carryAll_11 (by decide) ?_
  refine a_putI (y := 33) (pc := 12) dX9_carryAll_12 fl_RX9_243 (by decide) s0_275 rfl rfl (tyX9_ok 33 (by decide)) rfl ?_
  refine a_aload_n (pc := 15) dX9_carryAll_15 (by decide) rfl ?_
  refine a_aload_n (pc := 16) dX9_carryAll_16 (by decide) rfl ?_
  refine a_aload_n (pc := 17) dX9_carryAll_17 (by decide) rfl ?_
  refine a_getI (y := 0) (pc := 18) dX9_carryAll_18 fl_RX9_98 (by decide) s0_275 (Or.inl rfl) rfl ?_
  refine a_eq (y := M 275 0) rfl ?_
  refine p_callV (As := [(0, M 275 0)]) (st := [(2, 275)]) (st1 := fun r => [(0, r), (2, 275)])  (pc := 21) dX9_carryAll_21 ml_RX9_246 (by decide) s0_275 rfl (by decide) (Nat.le_of_ble_eq_true rfl) rfl (fun _ => rfl) h (fun r2 M3 h => ?_)
  refine a_putI (y := 0) (pc := 24) dX9_carryAll_24 fl_RX9_98 (by decide) s0_275 rfl rfl (tyX9_ok 0 (by decide)) rfl ?_
  refine a_iconst (pc := 27) dX9_carryAll_27 (by decide) ?_
  refine a_istore_n (ls1 := [(2, 275), (2, 293), (0, l2), (0, 0)]) (pc := 28) dX9_carryAll_28 (by decide) (hp1 (t := 0) rfl (by decide)) rfl ?_
  exact a_msk [true, false, false, true] rfl h
set_option maxRecDepth 100000 in
set_option maxHeartbeats 4000000 in
theorem B_R_carryAll_1_29 {l3 : Int} {M : Mem} {Q : Int → Mem → Prop} (h : ((8 ≤ l3 → AW mX9_carryAll 91 [(2, 275), (9, 0), (9, 0), (0, 0)] M Q) ∧ (¬ (8 ≤ l3) → ((0 : Int) ≤ l3 ∧ l3 < 8) ∧ Calls mX9_carry [(2, 275), (0, M 276 l3)] S0 M (fun r3 M4 => Calls mX9_carry [(2, 275), (0, M4 277 l3)] S0 (up2 M4 276 l3 r3) (fun r5 M6 => Calls mX9_carry [(2, 275), (0, M6 279 l3)] S0 (up2 M6 277 l3 r5) (fun r7 M8 => (-2147483648 ≤ l3 + 1 ∧ l3 + 1 ≤ 2147483647) ∧ AW mX9_carryAll 29 [(2, 275), (9, 0), (9, 0), (0, l3 + 1)] (up2 M8 279 l3 r7) Q)))))) : AW mX9_carryAll 29 [(2, 275), (9, 0), (9, 0), (0, l3)] M Q := by
  refine a_iload_n (pc := 29) dX9_carryAll_29 rfl ?_
  refine a_bipush (pc := 30) dX9_carryAll_30 (by decide) (by decide +kernel) ?_
  refine a_icmp_ge (tgt := 89) (pc := 32) dX9_carryAll_32 (by decide) (fun hc1 => ?_) (fun hc1 => ?_)
  · replace h := h.1 hc1
    refine a_iconst (pc := 89) dX9_carryAll_89 (by decide) ?_
    refine a_istore_n (ls1 := [(2, 275), (9, 0), (9, 0), (0, 0)]) (pc := 90) dX9_carryAll_90 (by decide) (hp1 (t := 9) rfl (by decide)) rfl ?_
    exact h
  · replace h := h.2 hc1
    refine a_aload_n (pc := 35) dX9_carryAll_35 (by decide) rfl ?_
    refine a_getR (y := 276) (pc := 36) dX9_carryAll_36 fl_RX9_7 (by decide) s0_275 rfl rfl ?_
    refine a_iload_n (pc := 39) dX9_carryAll_39 rfl ?_
    refine a_aload_n (pc := 40) dX9_carryAll_40 (by decide) rfl ?_
    refine a_aload_n (pc := 41) dX9_carryAll_41 (by decide) rfl ?_
    refine a_getR (y := 276) (pc := 42) dX9_carryAll_42 fl_RX9_7 (by decide) s0_275 rfl rfl ?_
    refine a_iload_n (pc := 45) dX9_carryAll_45 rfl ?_
    have ho2 := h.1
    replace h := h.2
    refine a_iald (pc := 46) dX9_carryAll_46 (by decide) s0_276 ho2.1 ho2.2 ?_
    refine p_callV (As := [(0, M 276 l3)]) (st := [(0, l3), (2, 276)]) (st1 := fun r => [(0, r), (0, l3), (2, 276)])  (pc := 47) dX9_carryAll_47 ml_RX9_246 (by decide) s0_275 rfl (by decide) (Nat.le_of_ble_eq_true rfl) rfl (fun _ => rfl) h (fun r3 M4 h => ?_)
    refine a_iast (pc := 50) dX9_carryAll_50 (by decide) s0_276 ho2.1 ho2.2 ?_
    refine a_aload_n (pc := 51) dX9_carryAll_51 (by decide) rfl ?_
    refine a_getR (y := 277) (pc := 52) dX9_carryAll_52 fl_RX9_13 (by decide) s0_275 rfl rfl ?_
    refine a_iload_n (pc := 55) dX9_carryAll_55 rfl ?_
    refine a_aload_n (pc := 56) dX9_carryAll_56 (by decide) rfl ?_
    refine a_aload_n (pc := 57) dX9_carryAll_57 (by decide) rfl ?_
    refine a_getR (y := 277) (pc := 58) dX9_carryAll_58 fl_RX9_13 (by decide) s0_275 rfl rfl ?_
    refine a_iload_n (pc := 61) dX9_carryAll_61 rfl ?_
    refine a_iald (pc := 62) dX9_carryAll_62 (by decide) s0_277 ho2.1 ho2.2 ?_
    refine a_eq (y := M4 277 l3) rfl ?_
    refine p_callV (As := [(0, M4 277 l3)]) (st := [(0, l3), (2, 277)]) (st1 := fun r => [(0, r), (0, l3), (2, 277)])  (pc := 63) dX9_carryAll_63 ml_RX9_246 (by decide) s0_275 rfl (by decide) (Nat.le_of_ble_eq_true rfl) rfl (fun _ => rfl) h (fun r5 M6 h => ?_)
    refine a_iast (pc := 66) dX9_carryAll_66 (by decide) s0_277 ho2.1 ho2.2 ?_
    refine a_aload_n (pc := 67) dX9_carryAll_67 (by decide) rfl ?_
    refine a_getR (y := 279) (pc := 68) dX9_carryAll_68 fl_RX9_19 (by decide) s0_275 rfl rfl ?_
    refine a_iload_n (pc := 71) dX9_carryAll_71 rfl ?_
    refine a_aload_n (pc := 72) dX9_carryAll_72 (by decide) rfl ?_
    refine a_aload_n (pc := 73) dX9_carryAll_73 (by decide) rfl ?_
    refine a_getR (y := 279) (pc := 74) dX9_carryAll_74 fl_RX9_19 (by decide) s0_275 rfl rfl ?_
    refine a_iload_n (pc := 77) dX9_carryAll_77 rfl ?_
    refine a_iald (pc := 78) dX9_carryAll_78 (by decide) s0_279 ho2.1 ho2.2 ?_
    refine a_eq (y := M6 279 l3) rfl ?_
    refine p_callV (As := [(0, M6 279 l3)]) (st := [(0, l3), (2, 279)]) (st1 := fun r => [(0, r), (0, l3), (2, 279)])  (pc := 79) dX9_carryAll_79 ml_RX9_246 (by decide) s0_275 rfl (by decide) (Nat.le_of_ble_eq_true rfl) rfl (fun _ => rfl) h (fun r7 M8 h => ?_)
    refine a_iast (pc := 82) dX9_carryAll_82 (by decide) s0_279 ho2.1 ho2.2 ?_
    have ho9 := h.1
    replace h := h.2
    refine a_iinc (ls1 := [(2, 275), (9, 0), (9, 0), (0, l3 + 1)]) (pc := 83) dX9_carryAll_83 rfl (by decide) (hp1 (t := 9) rfl (by decide)) ho9 rfl ?_
    refine a_goto (tgt := 29) (pc := 86) dX9_carryAll_86 (by decide) ?_
    exact h
set_option maxRecDepth 100000 in
set_option maxHeartbeats 4000000 in
theorem B_R_carryAll_1_91 {l3 : Int} {M : Mem} {Q : Int → Mem → Prop} (h : ((48 ≤ l3 → AW mX9_carryAll 137 [(2, 275), (9, 0), (9, 0), (0, 0)] M Q) ∧ (¬ (48 ≤ l3) → ((0 : Int) ≤ l3 ∧ l3 < 48) ∧ Calls mX9_carry [(2, 275), (0, M 278 l3)] S0 M (fun r3 M4 => Calls mX9_carry [(2, 275), (0, M4 280 l3)] S0 (up2 M4 278 l3 r3) (fun r5 M6 => (-2147483648 ≤ l3 + 1 ∧ l3 + 1 ≤ 2147483647) ∧ AW mX9_carryAll 91 [(2, 275), (9, 0), (9, 0), (0, l3 + 1)] (up2 M6 280 l3 r5) Q))))) : AW mX9_carryAll 91 [(2, 275), (9, 0), (9, 0), (0, l3)] M Q := by
  refine a_iload_n (pc := 91) dX9_carryAll_91 rfl ?_
  refine a_bipush (pc := 92) dX9_carryAll_92 (by decide) (by decide +kernel) ?_
  refine a_icmp_ge (tgt := 135) (pc := 94) dX9_carryAll_94 (by decide) (fun hc1 => ?_) (fun hc1 => ?_)
  · replace h := h.1 hc1
    refine a_iconst (pc := 135) dX9_carryAll_135 (by decide) ?_
    refine a_istore_n (ls1 := [(2, 275), (9, 0), (9, 0), (0, 0)]) (pc := 136) dX9_carryAll_136 (by decide) (hp1 (t := 9) rfl (by decide)) rfl ?_
    exact h
  · replace h := h.2 hc1
    refine a_aload_n (pc := 97) dX9_carryAll_97 (by decide) rfl ?_
    refine a_getR (y := 278) (pc := 98) dX9_carryAll_98 fl_RX9_16 (by decide) s0_275 rfl rfl ?_
    refine a_iload_n (pc := 101) dX9_carryAll_101 rfl ?_
    refine a_aload_n (pc := 102) dX9_carryAll_102 (by decide) rfl ?_
    refine a_aload_n (pc := 103) dX9_carryAll_103 (by decide) rfl ?_
    refine a_getR (y := 278) (pc := 104) dX9_carryAll_104 fl_RX9_16 (by decide) s0_275 rfl rfl ?_
    refine a_iload_n (pc := 107) dX9_carryAll_107 rfl ?_
    have ho2 := h.1
    replace h := h.2
    refine a_iald (pc := 108) dX9_carryAll_108 (by decide) s0_278 ho2.1 ho2.2 ?_
    refine p_callV (As := [(0, M 278 l3)]) (st := [(0, l3), (2, 278)]) (st1 := fun r => [(0, r), (0, l3), (2, 278)])  (pc := 109) dX9_carryAll_109 ml_RX9_246 (by decide) s0_275 rfl (by decide) (Nat.le_of_ble_eq_true rfl) rfl (fun _ => rfl) h (fun r3 M4 h => ?_)
    refine a_iast (pc := 112) dX9_carryAll_112 (by decide) s0_278 ho2.1 ho2.2 ?_
    refine a_aload_n (pc := 113) dX9_carryAll_113 (by decide) rfl ?_
    refine a_getR (y := 280) (pc := 114) dX9_carryAll_114 fl_RX9_22 (by decide) s0_275 rfl rfl ?_
    refine a_iload_n (pc := 117) dX9_carryAll_117 rfl ?_
    refine a_aload_n (pc := 118) dX9_carryAll_118 (by decide) rfl ?_
    refine a_aload_n (pc := 119) dX9_carryAll_119 (by decide) rfl ?_
    refine a_getR (y := 280) (pc := 120) dX9_carryAll_120 fl_RX9_22 (by decide) s0_275 rfl rfl ?_
    refine a_iload_n (pc := 123) dX9_carryAll_123 rfl ?_
    refine a_iald (pc := 124) dX9_carryAll_124 (by decide) s0_280 ho2.1 ho2.2 ?_
    refine a_eq (y := M4 280 l3) rfl ?_
    refine p_callV (As := [(0, M4 280 l3)]) (st := [(0, l3), (2, 280)]) (st1 := fun r => [(0, r), (0, l3), (2, 280)])  (pc := 125) dX9_carryAll_125 ml_RX9_246 (by decide) s0_275 rfl (by decide) (Nat.le_of_ble_eq_true rfl) rfl (fun _ => rfl) h (fun r5 M6 h => ?_)
    refine a_iast (pc := 128) dX9_carryAll_128 (by decide) s0_280 ho2.1 ho2.2 ?_
    have ho7 := h.1
    replace h := h.2
    refine a_iinc (ls1 := [(2, 275), (9, 0), (9, 0), (0, l3 + 1)]) (pc := 129) dX9_carryAll_129 rfl (by decide) (hp1 (t := 9) rfl (by decide)) ho7 rfl ?_
    refine a_goto (tgt := 91) (pc := 132) dX9_carryAll_132 (by decide) ?_
    exact h
set_option maxRecDepth 100000 in
set_option maxHeartbeats 4000000 in
theorem B_R_carryAll_1_137 {l3 : Int} {M : Mem} {Q : Int → Mem → Prop} (h : ((288 ≤ l3 → AW mX9_carryAll 168 [(2, 275), (9, 0), (9, 0), (0, 0)] M Q) ∧ (¬ (288 ≤ l3) → ((0 : Int) ≤ l3 ∧ l3 < 288) ∧ Calls mX9_carry [(2, 275), (0, M 281 l3)] S0 M (fun r3 M4 => (-2147483648 ≤ l3 + 1 ∧ l3 + 1 ≤ 2147483647) ∧ AW mX9_carryAll 137 [(2, 275), (9, 0), (9, 0), (0, l3 + 1)] (up2 M4 281 l3 r3) Q)))) : AW mX9_carryAll 137 [(2, 275), (9, 0), (9, 0), (0, l3)] M Q := by
  refine a_iload_n (pc := 137) dX9_carryAll_137 rfl ?_
  refine a_sipush (pc := 138) dX9_carryAll_138 (by decide) (by decide +kernel) ?_
  refine a_icmp_ge (tgt := 166) (pc := 141) dX9_carryAll_141 (by decide) (fun hc1 => ?_) (fun hc1 => ?_)
  · replace h := h.1 hc1
    refine a_iconst (pc := 166) dX9_carryAll_166 (by decide) ?_
    refine a_istore_n (ls1 := [(2, 275), (9, 0), (9, 0), (0, 0)]) (pc := 167) dX9_carryAll_167 (by decide) (hp1 (t := 9) rfl (by decide)) rfl ?_
    exact h
  · replace h := h.2 hc1
    refine a_aload_n (pc := 144) dX9_carryAll_144 (by decide) rfl ?_
    refine a_getR (y := 281) (pc := 145) dX9_carryAll_145 fl_RX9_25 (by decide) s0_275 rfl rfl ?_
    refine a_iload_n (pc := 148) dX9_carryAll_148 rfl ?_
    refine a_aload_n (pc := 149) dX9_carryAll_149 (by decide) rfl ?_
    refine a_aload_n (pc := 150) dX9_carryAll_150 (by decide) rfl ?_
    refine a_getR (y := 281) (pc := 151) dX9_carryAll_151 fl_RX9_25 (by decide) s0_275 rfl rfl ?_
    refine a_iload_n (pc := 154) dX9_carryAll_154 rfl ?_
    have ho2 := h.1
    replace h := h.2
    refine a_iald (pc := 155) dX9_carryAll_155 (by decide) s0_281 ho2.1 ho2.2 ?_
    refine p_callV (As := [(0, M 281 l3)]) (st := [(0, l3), (2, 281)]) (st1 := fun r => [(0, r), (0, l3), (2, 281)])  (pc := 156) dX9_carryAll_156 ml_RX9_246 (by decide) s0_275 rfl (by decide) (Nat.le_of_ble_eq_true rfl) rfl (fun _ => rfl) h (fun r3 M4 h => ?_)
    refine a_iast (pc := 159) dX9_carryAll_159 (by decide) s0_281 ho2.1 ho2.2 ?_
    have ho5 := h.1
    replace h := h.2
    refine a_iinc (ls1 := [(2, 275), (9, 0), (9, 0), (0, l3 + 1)]) (pc := 160) dX9_carryAll_160 rfl (by decide) (hp1 (t := 9) rfl (by decide)) ho5 rfl ?_
    refine a_goto (tgt := 137) (pc := 163) dX9_carryAll_163 (by decide) ?_
    exact h
set_option maxRecDepth 100000 in
set_option maxHeartbeats 4000000 in
theorem B_R_carryAll_1_168 {l3 : Int} {M : Mem} {Q : Int → Mem → Prop} (h : ((144 ≤ l3 → Q 0 M) ∧ (¬ (144 ≤ l3) → ((0 : Int) ≤ l3 ∧ l3 < 144) ∧ Calls mX9_carry [(2, 275), (0, M 282 l3)] S0 M (fun r3 M4 => (-2147483648 ≤ l3 + 1 ∧ l3 + 1 ≤ 2147483647) ∧ AW mX9_carryAll 168 [(2, 275), (9, 0), (9, 0), (0, l3 + 1)] (up2 M4 282 l3 r3) Q)))) : AW mX9_carryAll 168 [(2, 275), (9, 0), (9, 0), (0, l3)] M Q := by
  refine a_iload_n (pc := 168) dX9_carryAll_168 rfl ?_
  refine a_sipush (pc := 169) dX9_carryAll_169 (by decide) (by decide +kernel) ?_
  refine a_icmp_ge (tgt := 197) (pc := 172) dX9_carryAll_172 (by decide) (fun hc1 => ?_) (fun hc1 => ?_)
  · replace h := h.1 hc1
    exact a_vret (pc := 197) dX9_carryAll_197 rfl rfl (Nat.le_of_ble_eq_true rfl) ⟨rfl, h⟩
  · replace h := h.2 hc1
    refine a_aload_n (pc := 175) dX9_carryAll_175 (by decide) rfl ?_
    refine a_getR (y := 282) (pc := 176) dX9_carryAll_176 fl_RX9_28 (by decide) s0_275 rfl rfl ?_
    refine a_iload_n (pc := 179) dX9_carryAll_179 rfl ?_
    refine a_aload_n (pc := 180) dX9_carryAll_180 (by decide) rfl ?_
    refine a_aload_n (pc := 181) dX9_carryAll_181 (by decide) rfl ?_
    refine a_getR (y := 282) (pc := 182) dX9_carryAll_182 fl_RX9_28 (by decide) s0_275 rfl rfl ?_
    refine a_iload_n (pc := 185) dX9_carryAll_185 rfl ?_
    have ho2 := h.1
    replace h := h.2
    refine a_iald (pc := 186) dX9_carryAll_186 (by decide) s0_282 ho2.1 ho2.2 ?_
    refine p_callV (As := [(0, M 282 l3)]) (st := [(0, l3), (2, 282)]) (st1 := fun r => [(0, r), (0, l3), (2, 282)])  (pc := 187) dX9_carryAll_187 ml_RX9_246 (by decide) s0_275 rfl (by decide) (Nat.le_of_ble_eq_true rfl) rfl (fun _ => rfl) h (fun r3 M4 h => ?_)
    refine a_iast (pc := 190) dX9_carryAll_190 (by decide) s0_282 ho2.1 ho2.2 ?_
    have ho5 := h.1
    replace h := h.2
    refine a_iinc (ls1 := [(2, 275), (9, 0), (9, 0), (0, l3 + 1)]) (pc := 191) dX9_carryAll_191 rfl (by decide) (hp1 (t := 9) rfl (by decide)) ho5 rfl ?_
    refine a_goto (tgt := 168) (pc := 194) dX9_carryAll_194 (by decide) ?_
    exact h
theorem E_R_carryAll_1 {l2 : Int} {M : Mem} {Q : Int → Mem → Prop} (h : AW mX9_carryAll 0 [(2, 275), (2, 293), (0, l2), (9, 0)] M Q) : Calls mX9_carryAll [(2, 275), (2, 293), (0, l2)] S0 M Q := calls_of (by decide) (by decide) (Nat.le_of_ble_eq_true rfl) rfl h
set_option maxRecDepth 100000 in
set_option maxHeartbeats 4000000 in
theorem B_R_carryAll_2_0 {l2 : Int} {M : Mem} {Q : Int → Mem → Prop} (h : (l2 = 0 ∨ l2 = 1) ∧ Calls mX9_carry [(2, 275), (0, M 275 0)] S0 (up2 (up2 (up2 M 275 35 294) 275 34 l2) 275 33 0) (fun r2 M3 => AW mX9_carryAll 29 [(2, 275), (9, 0), (9, 0), (0, 0)] (up2 M3 275 0 r2) Q)) : AW mX9_carryAll 0 [(2, 275), (2, 294), (0, l2), (9, 0)] M Q := by
  refine a_aload_n (pc := 0) dX9_carryAll_0 (by decide) rfl ?_
  refine a_aload_n (pc := 1) dX9_carryAll_1 (by decide) rfl ?_
  refine a_putD (y := 35) (pc := 2) dX9_carryAll_2 fl_RX9_240 (by decide) s0_275 rfl rfl (tyX9_ok 35 (by decide)) (fun _ => ⟨rfl, rfl⟩) (by decide) (by decide) rfl ?_
  refine a_aload_n (pc := 5) dX9_carryAll_5 (by decide) rfl ?_
  refine a_iload_n (pc := 6) dX9_carryAll_6 rfl ?_
  have ho1 := h.1
  replace h := h.2
  refine a_putZ (y := 34) (pc := 7) dX9_carryAll_7 fl_RX9_237 (by decide) s0_275 rfl rfl (tyX9_ok 34 (by decide)) rfl ho1 ?_
  refine a_aload_n (pc := 10) dX9_carryAll_10 (by decide) rfl ?_
  refine a_iconst (pc := 11) dX9_carryAll_11 (by decide) ?_
  refine a_putI (y := 33) (pc := 12) dX9_carryAll_12 fl_RX9_243 (by decide) s0_275 rfl rfl (tyX9_ok 33 (by decide)) rfl ?_
  refine a_aload_n (pc := 15) dX9_carryAll_15 (by decide) rfl ?_
  refine a_aload_n (pc := 16) dX9_carryAll_16 (by decide) rfl ?_
  refine a_aload_n (pc := 17) dX9_carryAll_17 (by decide) rfl ?_
  refine a_getI (y := 0) (pc := 18) dX9_carryAll_18 fl_RX9_98 (by decide) s0_275 (Or.inl rfl) rfl ?_
  refine a_eq (y := M 275 0) rfl ?_
  refine p_callV (As := [(0, M 275 0)]) (st := [(2, 275)]) (st1 := fun r => [(0, r), (2, 275)])  (pc := 21) dX9_carryAll_21 ml_RX9_246 (by decide) s0_275 rfl (by decide) (Nat.le_of_ble_eq_true rfl) rfl (fun _ => rfl) h (fun r2 M3 h => ?_)
  refine a_putI (y := 0) (pc := 24) dX9_carryAll_24 fl_RX9_98 (by decide) s0_275 rfl rfl (tyX9_ok 0 (by decide)) rfl ?_
  refine a_iconst (pc := 27) dX9_carryAll_27 (by decide) ?_
  refine a_istore_n (ls1 := [(2, 275), (2, 294), (0, l2), (0, 0)]) (pc := 28) dX9_carryAll_28 (by decide) (hp1 (t := 0) rfl (by decide)) rfl ?_
  exact a_msk [true, false, false, true] rfl h
set_option maxRecDepth 100000 in
set_option maxHeartbeats 4000000 in
theorem B_R_carryAll_2_29 {l3 : Int} {M : Mem} {Q : Int → Mem → Prop} (h : ((8 ≤ l3 → AW mX9_carryAll 91 [(2, 275), (9, 0), (9, 0), (0, 0)] M Q) ∧ (¬ (8 ≤ l3) → ((0 : Int) ≤ l3 ∧ l3 < 8) ∧ Calls mX9_carry [(2, 275), (0, M 276 l3)] S0 M (fun r3 M4 => Calls mX9_carry [(2, 275), (0, M4 277 l3)] S0 (up2 M4 276 l3 r3) (fun r5 M6 => Calls mX9_carry [(2, 275), (0, M6 279 l3)] S0 (up2 M6 277 l3 r5) (fun r7 M8 => (-2147483648 ≤ l3 + 1 ∧ l3 + 1 ≤ 2147483647) ∧ AW mX9_carryAll 29 [(2, 275), (9, 0), (9, 0), (0, l3 + 1)] (up2 M8 279 l3 r7) Q)))))) : AW mX9_carryAll 29 [(2, 275), (9, 0), (9, 0), (0, l3)] M Q := by
  refine a_iload_n (pc := 29) dX9_carryAll_29 rfl ?_
  refine a_bipush (pc := 30) dX9_carryAll_30 (by decide) (by decide +kernel) ?_
  refine a_icmp_ge (tgt := 89) (pc := 32) dX9_carryAll_32 (by decide) (fun hc1 => ?_) (fun hc1 => ?_)
  · replace h := h.1 hc1
    refine a_iconst (pc := 89) dX9_carryAll_89 (by decide) ?_
    refine a_istore_n (ls1 := [(2, 275), (9, 0), (9, 0), (0, 0)]) (pc := 90) dX9_carryAll_90 (by decide) (hp1 (t := 9) rfl (by decide)) rfl ?_
    exact h
  · replace h := h.2 hc1
    refine a_aload_n (pc := 35) dX9_carryAll_35 (by decide) rfl ?_
    refine a_getR (y := 276) (pc := 36) dX9_carryAll_36 fl_RX9_7 (by decide) s0_275 rfl rfl ?_
    refine a_iload_n (pc := 39) dX9_carryAll_39 rfl ?_
    refine a_aload_n (pc := 40) dX9_carryAll_40 (by decide) rfl ?_
    refine a_aload_n (pc := 41) dX9_carryAll_41 (by decide) rfl ?_
    refine a_getR (y := 276) (pc := 42) dX9_carryAll_42 fl_RX9_7 (by decide) s0_275 rfl rfl ?_
    refine a_iload_n (pc := 45) dX9_carryAll_45 rfl ?_
    have ho2 := h.1
    replace h := h.2
    refine a_iald (pc := 46) dX9_carryAll_46 (by decide) s0_276 ho2.1 ho2.2 ?_
    refine p_callV (As := [(0, M 276 l3)]) (st := [(0, l3), (2, 276)]) (st1 := fun r => [(0, r), (0, l3), (2, 276)])  (pc := 47) dX9_carryAll_47 ml_RX9_246 (by decide) s0_275 rfl (by decide) (Nat.le_of_ble_eq_true rfl) rfl (fun _ => rfl) h (fun r3 M4 h => ?_)
    refine a_iast (pc := 50) dX9_carryAll_50 (by decide) s0_276 ho2.1 ho2.2 ?_
    refine a_aload_n (pc := 51) dX9_carryAll_51 (by decide) rfl ?_
    refine a_getR (y := 277) (pc := 52) dX9_carryAll_52 fl_RX9_13 (by decide) s0_275 rfl rfl ?_
    refine a_iload_n (pc := 55) dX9_carryAll_55 rfl ?_
    refine a_aload_n (pc := 56) dX9_carryAll_56 (by decide) rfl ?_
    refine a_aload_n (pc := 57) dX9_carryAll_57 (by decide) rfl ?_
    refine a_getR (y := 277) (pc := 58) dX9_carryAll_58 fl_RX9_13 (by decide) s0_275 rfl rfl ?_
    refine a_iload_n (pc := 61) dX9_carryAll_61 rfl ?_
    refine a_iald (pc := 62) dX9_carryAll_62 (by decide) s0_277 ho2.1 ho2.2 ?_
    refine a_eq (y := M4 277 l3) rfl ?_
    refine p_callV (As := [(0, M4 277 l3)]) (st := [(0, l3), (2, 277)]) (st1 := fun r => [(0, r), (0, l3), (2, 277)])  (pc := 63) dX9_carryAll_63 ml_RX9_246 (by decide) s0_275 rfl (by decide) (Nat.le_of_ble_eq_true rfl) rfl (fun _ => rfl) h (fun r5 M6 h => ?_)
    refine a_iast (pc := 66) dX9_carryAll_66 (by decide) s0_277 ho2.1 ho2.2 ?_
    refine a_aload_n (pc := 67) dX9_carryAll_67 (by decide) rfl ?_
    refine a_getR (y := 279) (pc := 68) dX9_carryAll_68 fl_RX9_19 (by decide) s0_275 rfl rfl ?_
    refine a_iload_n (pc := 71) dX9_carryAll_71 rfl ?_
    refine a_aload_n (pc := 72) dX9_carryAll_72 (by decide) rfl ?_
    refine a_aload_n (pc := 73) dX9_carryAll_73 (by decide) rfl ?_
    refine a_getR (y := 279) (pc := 74) dX9_carryAll_74 fl_RX9_19 (by decide) s0_275 rfl rfl ?_
    refine a_iload_n (pc := 77) dX9_carryAll_77 rfl ?_
    refine a_iald (pc := 78) dX9_carryAll_78 (by decide) s0_279 ho2.1 ho2.2 ?_
    refine a_eq (y := M6 279 l3) rfl ?_
    refine p_callV (As := [(0, M6 279 l3)]) (st := [(0, l3), (2, 279)]) (st1 := fun r => [(0, r), (0, l3), (2, 279)])  (pc := 79) dX9_carryAll_79 ml_RX9_246 (by decide) s0_275 rfl (by decide) (Nat.le_of_ble_eq_true rfl) rfl (fun _ => rfl) h (fun r7 M8 h => ?_)
    refine a_iast (pc := 82) dX9_carryAll_82 (by decide) s0_279 ho2.1 ho2.2 ?_
    have ho9 := h.1
    replace h := h.2
    refine a_iinc (ls1 := [(2, 275), (9, 0), (9, 0), (0, l3 + 1)]) (pc := 83) dX9_carryAll_83 rfl (by decide) (hp1 (t := 9) rfl (by decide)) ho9 rfl ?_
    refine a_goto (tgt := 29) (pc := 86) dX9_carryAll_86 (by decide) ?_
    exact h
set_option maxRecDepth 100000 in
set_option maxHeartbeats 4000000 in
theorem B_R_carryAll_2_91 {l3 : Int} {M : Mem} {Q : Int → Mem → Prop} (h : ((48 ≤ l3 → AW mX9_carryAll 137 [(2, 275), (9, 0), (9, 0), (0, 0)] M Q) ∧ (¬ (48 ≤ l3) → ((0 : Int) ≤ l3 ∧ l3 < 48) ∧ Calls mX9_carry [(2, 275), (0, M 278 l3)] S0 M (fun r3 M4 => Calls mX9_carry [(2, 275), (0, M4 280 l3)] S0 (up2 M4 278 l3 r3) (fun r5 M6 => (-2147483648 ≤ l3 + 1 ∧ l3 + 1 ≤ 2147483647) ∧ AW mX9_carryAll 91 [(2, 275), (9, 0), (9, 0), (0, l3 + 1)] (up2 M6 280 l3 r5) Q))))) : AW mX9_carryAll 91 [(2, 275), (9, 0), (9, 0), (0, l3)] M Q := by
  refine a_iload_n (pc := 91) dX9_carryAll_91 rfl ?_
  refine a_bipush (pc := 92) dX9_carryAll_92 (by decide) (by decide +kernel) ?_
  refine a_icmp_ge (tgt := 135) (pc := 94) dX9_carryAll_94 (by decide) (fun hc1 => ?_) (fun hc1 => ?_)
  · replace h := h.1 hc1
    refine a_iconst (pc := 135) dX9_carryAll_135 (by decide) ?_
    refine a_istore_n (ls1 := [(2, 275), (9, 0), (9, 0), (0, 0)]) (pc := 136) dX9_carryAll_136 (by decide) (hp1 (t := 9) rfl (by decide)) rfl ?_
    exact h
  · replace h := h.2 hc1
    refine a_aload_n (pc := 97) dX9_carryAll_97 (by decide) rfl ?_
    refine a_getR (y := 278) (pc := 98) dX9_carryAll_98 fl_RX9_16 (by decide) s0_275 rfl rfl ?_
    refine a_iload_n (pc := 101) dX9_carryAll_101 rfl ?_
    refine a_aload_n (pc := 102) dX9_carryAll_102 (by decide) rfl ?_
    refine a_aload_n (pc := 103) dX9_carryAll_103 (by decide) rfl ?_
    refine a_getR (y := 278) (pc := 104) dX9_carryAll_104 fl_RX9_16 (by decide) s0_275 rfl rfl ?_
    refine a_iload_n (pc := 107) dX9_carryAll_107 rfl ?_
    have ho2 := h.1
    replace h := h.2
    refine a_iald (pc := 108) dX9_carryAll_108 (by decide) s0_278 ho2.1 ho2.2 ?_
    refine p_callV (As := [(0, M 278 l3)]) (st := [(0, l3), (2, 278)]) (st1 := fun r => [(0, r), (0, l3), (2, 278)])  (pc := 109) dX9_carryAll_109 ml_RX9_246 (by decide) s0_275 rfl (by decide) (Nat.le_of_ble_eq_true rfl) rfl (fun _ => rfl) h (fun r3 M4 h => ?_)
    refine a_iast (pc := 112) dX9_carryAll_112 (by decide) s0_278 ho2.1 ho2.2 ?_
    refine a_aload_n (pc := 113) dX9_carryAll_113 (by decide) rfl ?_
    refine a_getR (y := 280) (pc := 114) dX9_carryAll_114 fl_RX9_22 (by decide) s0_275 rfl rfl ?_
    refine a_iload_n (pc := 117) dX9_carryAll_117 rfl ?_
    refine a_aload_n (pc := 118) dX9_carryAll_118 (by decide) rfl ?_
    refine a_aload_n (pc := 119) dX9_carryAll_119 (by decide) rfl ?_
    refine a_getR (y := 280) (pc := 120) dX9_carryAll_120 fl_RX9_22 (by decide) s0_275 rfl rfl ?_
    refine a_iload_n (pc := 123) dX9_carryAll_123 rfl ?_
    refine a_iald (pc := 124) dX9_carryAll_124 (by decide) s0_280 ho2.1 ho2.2 ?_
    refine a_eq (y := M4 280 l3) rfl ?_
    refine p_callV (As := [(0, M4 280 l3)]) (st := [(0, l3), (2, 280)]) (st1 := fun r => [(0, r), (0, l3), (2, 280)])  (pc := 125) dX9_carryAll_125 ml_RX9_246 (by decide) s0_275 rfl (by decide) (Nat.le_of_ble_eq_true rfl) rfl (fun _ => rfl) h (fun r5 M6 h => ?_)
    refine a_iast (pc := 128) dX9_carryAll_128 (by decide) s0_280 ho2.1 ho2.2 ?_
    have ho7 := h.1
    replace h := h.2
    refine a_iinc (ls1 := [(2, 275), (9, 0), (9, 0), (0, l3 + 1)]) (pc := 129) dX9_carryAll_129 rfl (by decide) (hp1 (t := 9) rfl (by decide)) ho7 rfl ?_
    refine a_goto (tgt := 91) (pc := 132) dX9_carryAll_132 (by decide) ?_
    exact h
set_option maxRecDepth 100000 in
set_option maxHeartbeats 4000000 in
theorem B_R_carryAll_2_137 {l3 : Int} {M : Mem} {Q : Int → Mem → Prop} (h : ((288 ≤ l3 → AW mX9_carryAll 168 [(2, 275), (9, 0), (9, 0), (0, 0)] M Q) ∧ (¬ (288 ≤ l3) → ((0 : Int) ≤ l3 ∧ l3 < 288) ∧ Calls mX9_carry [(2, 275), (0, M 281 l3)] S0 M (fun r3 M4 => (-2147483648 ≤ l3 + 1 ∧ l3 + 1 ≤ 2147483647) ∧ AW mX9_carryAll 137 [(2, 275), (9, 0), (9, 0), (0, l3 + 1)] (up2 M4 281 l3 r3) Q)))) : AW mX9_carryAll 137 [(2, 275), (9, 0), (9, 0), (0, l3)] M Q := by
  refine a_iload_n (pc := 137) dX9_carryAll_137 rfl ?_
  refine a_sipush (pc := 138) dX9_carryAll_138 (by decide) (by decide +kernel) ?_
  refine a_icmp_ge (tgt := 166) (pc := 141) dX9_carryAll_141 (by decide) (fun hc1 => ?_) (fun hc1 => ?_)
  · replace h := h.1 hc1
    refine a_iconst (pc := 166) dX9_carryAll_166 (by decide) ?_
    refine a_istore_n (ls1 := [(2, 275), (9, 0), (9, 0), (0, 0)]) (pc := 167) dX9_carryAll_167 (by decide) (hp1 (t := 9) rfl (by decide)) rfl ?_
    exact h
  · replace h := h.2 hc1
    refine a_aload_n (pc := 144) dX9_carryAll_144 (by decide) rfl ?_
    refine a_getR (y := 281) (pc := 145) dX9_carryAll_145 fl_RX9_25 (by decide) s0_275 rfl rfl ?_
    refine a_iload_n (pc := 148) dX9_carryAll_148 rfl ?_
    refine a_aload_n (pc := 149) dX9_carryAll_149 (by decide) rfl ?_
    refine a_aload_n (pc := 150) dX9_carryAll_150 (by decide) rfl ?_
    refine a_getR (y := 281) (pc := 151) dX9_carryAll_151 fl_RX9_25 (by decide) s0_275 rfl rfl ?_
    refine a_iload_n (pc := 154) dX9_carryAll_154 rfl ?_
    have ho2 := h.1
    replace h := h.2
    refine a_iald (pc := 155) dX9_carryAll_155 (by decide) s0_281 ho2.1 ho2.2 ?_
    refine p_callV (As := [(0, M 281 l3)]) (st := [(0, l3), (2, 281)]) (st1 := fun r => [(0, r), (0, l3), (2, 281)])  (pc := 156) dX9_carryAll_156 ml_RX9_246 (by decide) s0_275 rfl (by decide) (Nat.le_of_ble_eq_true rfl) rfl (fun _ => rfl) h (fun r3 M4 h => ?_)
    refine a_iast (pc := 159) dX9_carryAll_159 (by decide) s0_281 ho2.1 ho2.2 ?_
    have ho5 := h.1
    replace h := h.2
    refine a_iinc (ls1 := [(2, 275), (9, 0), (9, 0), (0, l3 + 1)]) (pc := 160) dX9_carryAll_160 rfl (by decide) (hp1 (t := 9) rfl (by decide)) ho5 rfl ?_
    refine a_goto (tgt := 137) (pc := 163) dX9_carryAll_163 (by decide) ?_
    exact h
set_option maxRecDepth 100000 in
set_option maxHeartbeats 4000000 in
theorem B_R_carryAll_2_168 {l3 : Int} {M : Mem} {Q : Int → Mem → Prop} (h : ((144 ≤ l3 → Q 0 M) ∧ (¬ (144 ≤ l3) → ((0 : Int) ≤ l3 ∧ l3 < 144) ∧ Calls mX9_carry [(2, 275), (0, M 282 l3)] S0 M (fun r3 M4 => (-2147483648 ≤ l3 + 1 ∧ l3 + 1 ≤ 2147483647) ∧ AW mX9_carryAll 168 [(2, 275), (9, 0), (9, 0), (0, l3 + 1)] (up2 M4 282 l3 r3) Q)))) : AW mX9_carryAll 168 [(2, 275), (9, 0), (9, 0), (0, l3)] M Q := by
  refine a_iload_n (pc := 168) dX9_carryAll_168 rfl ?_
  refine a_sipush (pc := 169) dX9_carryAll_169 (by decide) (by decide +kernel) ?_
  refine a_icmp_ge (tgt := 197) (pc := 172) dX9_carryAll_172 (by decide) (fun hc1 => ?_) (fun hc1 => ?_)
  · replace h := h.1 hc1
    exact a_vret (pc := 197) dX9_carryAll_197 rfl rfl (Nat.le_of_ble_eq_true rfl) ⟨rfl, h⟩
  · replace h := h.2 hc1
    refine a_aload_n (pc := 175) dX9_carryAll_175 (by decide) rfl ?_
    refine a_getR (y := 282) (pc := 176) dX9_carryAll_176 fl_RX9_28 (by decide) s0_275 rfl rfl ?_
    refine a_iload_n (pc := 179) dX9_carryAll_179 rfl ?_
    refine a_aload_n (pc := 180) dX9_carryAll_180 (by decide) rfl ?_
    refine a_aload_n (pc := 181) dX9_carryAll_181 (by decide) rfl ?_
    refine a_getR (y := 282) (pc := 182) dX9_carryAll_182 fl_RX9_28 (by decide) s0_275 rfl rfl ?_
    refine a_iload_n (pc := 185) dX9_carryAll_185 rfl ?_
    have ho2 := h.1
    replace h := h.2
    refine a_iald (pc := 186) dX9_carryAll_186 (by decide) s0_282 ho2.1 ho2.2 ?_
    refine p_callV (As := [(0, M 282 l3)]) (st := [(0, l3), (2, 282)]) (st1 := fun r => [(0, r), (0, l3), (2, 282)])  (pc := 187) dX9_carryAll_187 ml_RX9_246 (by decide) s0_275 rfl (by decide) (Nat.le_of_ble_eq_true rfl) rfl (fun _ => rfl) h (fun r3 M4 h => ?_)
    refine a_iast (pc := 190) dX9_carryAll_190 (by decide) s0_282 ho2.1 ho2.2 ?_
    have ho5 := h.1
    replace h := h.2
    refine a_iinc (ls1 := [(2, 275), (9, 0), (9, 0), (0, l3 + 1)]) (pc := 191) dX9_carryAll_191 rfl (by decide) (hp1 (t := 9) rfl (by decide)) ho5 rfl ?_
    refine a_goto (tgt := 168) (pc := 194) dX9_carryAll_194 (by decide) ?_
    exact h
theorem E_R_carryAll_2 {l2 : Int} {M : Mem} {Q : Int → Mem → Prop} (h : AW mX9_carryAll 0 [(2, 275), (2, 294), (0, l2), (9, 0)] M Q) : Calls mX9_carryAll [(2, 275), (2, 294), (0, l2)] S0 M Q := calls_of (by decide) (by decide) (Nat.le_of_ble_eq_true rfl) rfl h
set_option maxRecDepth 100000 in
set_option maxHeartbeats 4000000 in
theorem B_R_writesNumber_0 {l1 : Int} {M : Mem} {Q : Int → Mem → Prop} (h : ((l1 ≤ 9 → ((0 : Int) ≤ l1) ∧ (-2147483648 ≤ 48 + (l1 % 10) ∧ 48 + (l1 % 10) ≤ 2147483647) ∧ ((0 : Int) ≤ M 275 37 ∧ M 275 37 < 200) ∧ (-2147483648 ≤ (M 275 37) + 1 ∧ (M 275 37) + 1 ≤ 2147483647) ∧ Q 0 (up2 (up2 M 295 (M 275 37) (48 + (l1 % 10))) 275 37 ((M 275 37) + 1))) ∧ (¬ (l1 ≤ 9) → ((0 : Int) ≤ l1) ∧ (-2147483648 ≤ 48 + (l1 / 10) ∧ 48 + (l1 / 10) ≤ 2147483647) ∧ ((0 : Int) ≤ M 275 37 ∧ M 275 37 < 200) ∧ (-2147483648 ≤ (M 275 37) + 1 ∧ (M 275 37) + 1 ≤ 2147483647) ∧ (-2147483648 ≤ 48 + (l1 % 10) ∧ 48 + (l1 % 10) ≤ 2147483647) ∧ ((0 : Int) ≤ (M 275 37) + 1 ∧ (M 275 37) + 1 < 200) ∧ (-2147483648 ≤ ((M 275 37) + 1) + 1 ∧ ((M 275 37) + 1) + 1 ≤ 2147483647) ∧ Q 0 (up2 (up2 (up2 (up2 M 295 (M 275 37) (48 + (l1 / 10))) 275 37 ((M 275 37) + 1)) 295 ((M 275 37) + 1) (48 + (l1 % 10))) 275 37 (((M 275 37) + 1) + 1))))) : AW mX9_writesNumber 0 [(2, 275), (0, l1)] M Q := by
  refine a_iload_n (pc := 0) dX9_writesNumber_0 rfl ?_
  refine a_bipush (pc := 1) dX9_writesNumber_1 (by decide) (by decide +kernel) ?_
  refine a_icmp_le (tgt := 17) (pc := 3) dX9_writesNumber_3 (by decide) (fun hc1 => ?_) (fun hc1 => ?_)
  · replace h := h.1 hc1
    refine a_aload_n (pc := 17) dX9_writesNumber_17 (by decide) rfl ?_
    refine a_bipush (pc := 18) dX9_writesNumber_18 (by decide) (by decide +kernel) ?_
    refine a_iload_n (pc := 20) dX9_writesNumber_20 rfl ?_
    refine a_bipush (pc := 21) dX9_writesNumber_21 (by decide) (by decide +kernel) ?_
    have ho2 := h.1
    replace h := h.2
    refine a_irem (pc := 23) dX9_writesNumber_23 ho2 (by decide) ?_
    have ho3 := h.1
    replace h := h.2
    refine a_iadd (pc := 24) dX9_writesNumber_24 ho3 ?_
    refine p_inlV (Ex := _) (As := [(0, 48 + (l1 % 10))]) (st := []) (st1 := fun r => [])  (pc := 25) dX9_writesNumber_25 ml_RX9_324 (by decide) s0_275 rfl (by decide) (Nat.le_of_ble_eq_true rfl) rfl (fun _ => rfl) (by decide) (by decide) (Nat.le_of_ble_eq_true rfl) rfl ?_
    refine a_aload_n (pc := 0) dX9_writes_0 (by decide) rfl ?_
    refine a_getR (y := 295) (pc := 1) dX9_writes_1 fl_RX9_74 (by decide) s0_275 rfl rfl ?_
    refine a_aload_n (pc := 4) dX9_writes_4 (by decide) rfl ?_
    refine a_getI (y := 37) (pc := 5) dX9_writes_5 fl_RX9_321 (by decide) s0_275 (Or.inl rfl) rfl ?_
    refine a_iload_n (pc := 8) dX9_writes_8 rfl ?_
    have ho4 := h.1
    replace h := h.2
    refine a_iast (pc := 9) dX9_writes_9 (by decide) s0_295 ho4.1 ho4.2 ?_
    refine a_aload_n (pc := 10) dX9_writes_10 (by decide) rfl ?_
    refine a_dup (pc := 11) dX9_writes_11 n21 ?_
    refine a_getI (y := 37) (pc := 12) dX9_writes_12 fl_RX9_321 (by decide) s0_275 (Or.inl rfl) rfl ?_
    refine a_eq (y := M 275 37) rfl ?_
    refine a_iconst (pc := 15) dX9_writes_15 (by decide) ?_
    have ho5 := h.1
    replace h := h.2
    refine a_iadd (pc := 16) dX9_writes_16 ho5 ?_
    refine a_putI (y := 37) (pc := 17) dX9_writes_17 fl_RX9_321 (by decide) s0_275 rfl rfl (tyX9_ok 37 (by decide)) rfl ?_
    refine a_vret (pc := 20) dX9_writes_20 rfl rfl (Nat.le_of_ble_eq_true rfl) ⟨rfl, ?_⟩
    exact a_vret (pc := 28) dX9_writesNumber_28 rfl rfl (Nat.le_of_ble_eq_true rfl) ⟨rfl, h⟩
  · replace h := h.2 hc1
    refine a_aload_n (pc := 6) dX9_writesNumber_6 (by decide) rfl ?_
    refine a_bipush (pc := 7) dX9_writesNumber_7 (by decide) (by decide +kernel) ?_
    refine a_iload_n (pc := 9) dX9_writesNumber_9 rfl ?_
    refine a_bipush (pc := 10) dX9_writesNumber_10 (by decide) (by decide +kernel) ?_
    have ho6 := h.1
    replace h := h.2
    refine a_idiv (pc := 12) dX9_writesNumber_12 ho6 (by decide) ?_
    have ho7 := h.1
    replace h := h.2
    refine a_iadd (pc := 13) dX9_writesNumber_13 ho7 ?_
    refine p_inlV (Ex := _) (As := [(0, 48 + (l1 / 10))]) (st := []) (st1 := fun r => [])  (pc := 14) dX9_writesNumber_14 ml_RX9_324 (by decide) s0_275 rfl (by decide) (Nat.le_of_ble_eq_true rfl) rfl (fun _ => rfl) (by decide) (by decide) (Nat.le_of_ble_eq_true rfl) rfl ?_
    refine a_aload_n (pc := 0) dX9_writes_0 (by decide) rfl ?_
    refine a_getR (y := 295) (pc := 1) dX9_writes_1 fl_RX9_74 (by decide) s0_275 rfl rfl ?_
    refine a_aload_n (pc := 4) dX9_writes_4 (by decide) rfl ?_
    refine a_getI (y := 37) (pc := 5) dX9_writes_5 fl_RX9_321 (by decide) s0_275 (Or.inl rfl) rfl ?_
    refine a_iload_n (pc := 8) dX9_writes_8 rfl ?_
    have ho8 := h.1
    replace h := h.2
    refine a_iast (pc := 9) dX9_writes_9 (by decide) s0_295 ho8.1 ho8.2 ?_
    refine a_aload_n (pc := 10) dX9_writes_10 (by decide) rfl ?_
    refine a_dup (pc := 11) dX9_writes_11 n21 ?_
    refine a_getI (y := 37) (pc := 12) dX9_writes_12 fl_RX9_321 (by decide) s0_275 (Or.inl rfl) rfl ?_
    refine a_eq (y := M 275 37) rfl ?_
    refine a_iconst (pc := 15) dX9_writes_15 (by decide) ?_
    have ho9 := h.1
    replace h := h.2
    refine a_iadd (pc := 16) dX9_writes_16 ho9 ?_
    refine a_putI (y := 37) (pc := 17) dX9_writes_17 fl_RX9_321 (by decide) s0_275 rfl rfl (tyX9_ok 37 (by decide)) rfl ?_
    refine a_vret (pc := 20) dX9_writes_20 rfl rfl (Nat.le_of_ble_eq_true rfl) ⟨rfl, ?_⟩
    refine a_aload_n (pc := 17) dX9_writesNumber_17 (by decide) rfl ?_
    refine a_bipush (pc := 18) dX9_writesNumber_18 (by decide) (by decide +kernel) ?_
    refine a_iload_n (pc := 20) dX9_writesNumber_20 rfl ?_
    refine a_bipush (pc := 21) dX9_writesNumber_21 (by decide) (by decide +kernel) ?_
    refine a_irem (pc := 23) dX9_writesNumber_23 ho6 (by decide) ?_
    have ho10 := h.1
    replace h := h.2
    refine a_iadd (pc := 24) dX9_writesNumber_24 ho10 ?_
    refine p_inlV (Ex := _) (As := [(0, 48 + (l1 % 10))]) (st := []) (st1 := fun r => [])  (pc := 25) dX9_writesNumber_25 ml_RX9_324 (by decide) s0_275 rfl (by decide) (Nat.le_of_ble_eq_true rfl) rfl (fun _ => rfl) (by decide) (by decide) (Nat.le_of_ble_eq_true rfl) rfl ?_
    refine a_aload_n (pc := 0) dX9_writes_0 (by decide) rfl ?_
    refine a_getR (y := 295) (pc := 1) dX9_writes_1 fl_RX9_74 (by decide) s0_275 rfl rfl ?_
    refine a_aload_n (pc := 4) dX9_writes_4 (by decide) rfl ?_
    refine a_getI (y := 37) (pc := 5) dX9_writes_5 fl_RX9_321 (by decide) s0_275 (Or.inl rfl) rfl ?_
    refine a_eq (y := (M 275 37) + 1) rfl ?_
    refine a_iload_n (pc := 8) dX9_writes_8 rfl ?_
    have ho11 := h.1
    replace h := h.2
    refine a_iast (pc := 9) dX9_writes_9 (by decide) s0_295 ho11.1 ho11.2 ?_
    refine a_aload_n (pc := 10) dX9_writes_10 (by decide) rfl ?_
    refine a_dup (pc := 11) dX9_writes_11 n21 ?_
    refine a_getI (y := 37) (pc := 12) dX9_writes_12 fl_RX9_321 (by decide) s0_275 (Or.inl rfl) rfl ?_
    refine a_eq (y := (M 275 37) + 1) rfl ?_
    refine a_iconst (pc := 15) dX9_writes_15 (by decide) ?_
    have ho12 := h.1
    replace h := h.2
    refine a_iadd (pc := 16) dX9_writes_16 ho12 ?_
    refine a_putI (y := 37) (pc := 17) dX9_writes_17 fl_RX9_321 (by decide) s0_275 rfl rfl (tyX9_ok 37 (by decide)) rfl ?_
    refine a_vret (pc := 20) dX9_writes_20 rfl rfl (Nat.le_of_ble_eq_true rfl) ⟨rfl, ?_⟩
    exact a_vret (pc := 28) dX9_writesNumber_28 rfl rfl (Nat.le_of_ble_eq_true rfl) ⟨rfl, h⟩
theorem E_R_writesNumber {l1 : Int} {M : Mem} {Q : Int → Mem → Prop} (h : AW mX9_writesNumber 0 [(2, 275), (0, l1)] M Q) : Calls mX9_writesNumber [(2, 275), (0, l1)] S0 M Q := calls_of (by decide) (by decide) (Nat.le_of_ble_eq_true rfl) rfl h
set_option maxRecDepth 100000 in
set_option maxHeartbeats 4000000 in
theorem B_R_layWalks_0 {l1 : Int} {M : Mem} {Q : Int → Mem → Prop} (h : AW mX9_layWalks 2 [(2, 275), (0, l1), (0, 0), (9, 0), (9, 0), (9, 0)] M Q) : AW mX9_layWalks 0 [(2, 275), (0, l1), (9, 0), (9, 0), (9, 0), (9, 0)] M Q := by
  refine a_iconst (pc := 0) dX9_layWalks_0 (by decide) ?_
  refine a_istore_n (ls1 := [(2, 275), (0, l1), (0, 0), (9, 0), (9, 0), (9, 0)]) (pc := 1) dX9_layWalks_1 (by decide) (hp1 (t := 0) rfl (by decide)) rfl ?_
  exact h
set_option maxRecDepth 100000 in
set_option maxHeartbeats 4000000 in
theorem B_R_layWalks_2 {l1 l2 : Int} {M : Mem} {Q : Int → Mem → Prop} (h : ((12 ≤ l2 → Q 0 M) ∧ (¬ (12 ≤ l2) → (-2147483648 ≤ 12 * l1 ∧ 12 * l1 ≤ 2147483647) ∧ (-2147483648 ≤ (12 * l1) + l2 ∧ (12 * l1) + l2 ≤ 2147483647) ∧ ((0 : Int) ≤ (12 * l1) + l2 ∧ (12 * l1) + l2 < 84) ∧ AW mX9_layWalks 23 [(2, 275), (0, l1), (0, l2), (0, M 283 ((12 * l1) + l2)), (0, 0), (9, 0)] M Q))) : AW mX9_layWalks 2 [(2, 275), (0, l1), (0, l2), (9, 0), (9, 0), (9, 0)] M Q := by
  refine a_iload_n (pc := 2) dX9_layWalks_2 rfl ?_
  refine a_bipush (pc := 3) dX9_layWalks_3 (by decide) (by decide +kernel) ?_
  refine a_icmp_ge (tgt := 111) (pc := 5) dX9_layWalks_5 (by decide) (fun hc1 => ?_) (fun hc1 => ?_)
  · replace h := h.1 hc1
    exact a_vret (pc := 111) dX9_layWalks_111 rfl rfl (Nat.le_of_ble_eq_true rfl) ⟨rfl, h⟩
  · replace h := h.2 hc1
    refine a_aload_n (pc := 8) dX9_layWalks_8 (by decide) rfl ?_
    refine a_getR (y := 283) (pc := 9) dX9_layWalks_9 fl_RX9_38 (by decide) s0_275 rfl rfl ?_
    refine a_bipush (pc := 12) dX9_layWalks_12 (by decide) (by decide +kernel) ?_
    refine a_iload_n (pc := 14) dX9_layWalks_14 rfl ?_
    have ho2 := h.1
    replace h := h.2
    refine a_imul (pc := 15) dX9_layWalks_15 ho2 ?_
    refine a_iload_n (pc := 16) dX9_layWalks_16 rfl ?_
    have ho3 := h.1
    replace h := h.2
    refine a_iadd (pc := 17) dX9_layWalks_17 ho3 ?_
    have ho4 := h.1
    replace h := h.2
    refine a_iald (pc := 18) dX9_layWalks_18 (by decide) s0_283 ho4.1 ho4.2 ?_
    refine a_istore_n (ls1 := [(2, 275), (0, l1), (0, l2), (0, M 283 ((12 * l1) + l2)), (9, 0), (9, 0)]) (pc := 19) dX9_layWalks_19 (by decide) (hp1 (t := 0) rfl (by decide)) rfl ?_
    refine a_iconst (pc := 20) dX9_layWalks_20 (by decide) ?_
    refine a_istore (ls1 := [(2, 275), (0, l1), (0, l2), (0, M 283 ((12 * l1) + l2)), (0, 0), (9, 0)]) (pc := 21) dX9_layWalks_21 (by decide) (hp1 (t := 0) rfl (by decide)) rfl ?_
    exact h
set_option maxRecDepth 100000 in
set_option maxHeartbeats 4000000 in
theorem B_R_layWalks_23 {l1 l2 l3 l4 : Int} {M : Mem} {Q : Int → Mem → Prop} (h : ((12 ≤ l4 → (-2147483648 ≤ 12 * l1 ∧ 12 * l1 ≤ 2147483647) ∧ (-2147483648 ≤ (12 * l1) + l2 ∧ (12 * l1) + l2 ≤ 2147483647) ∧ ((100000000 ≤ l3 → ((0 : Int) ≤ (12 * l1) + l2 ∧ (12 * l1) + l2 < 84) ∧ (-2147483648 ≤ l2 + 1 ∧ l2 + 1 ≤ 2147483647) ∧ AW mX9_layWalks 2 [(2, 275), (0, l1), (0, l2 + 1), (9, 0), (9, 0), (9, 0)] (up2 M 284 ((12 * l1) + l2) 100000000) Q) ∧ (¬ (100000000 ≤ l3) → ((0 : Int) ≤ (12 * l1) + l2 ∧ (12 * l1) + l2 < 84) ∧ (-2147483648 ≤ l2 + 1 ∧ l2 + 1 ≤ 2147483647) ∧ AW mX9_layWalks 2 [(2, 275), (0, l1), (0, l2 + 1), (9, 0), (9, 0), (9, 0)] (up2 M 284 ((12 * l1) + l2) l3) Q))) ∧ (¬ (12 ≤ l4) → ((¬ l4 = l2 → (-2147483648 ≤ 12 * l1 ∧ 12 * l1 ≤ 2147483647) ∧ (-2147483648 ≤ (12 * l1) + l4 ∧ (12 * l1) + l4 ≤ 2147483647) ∧ ((0 : Int) ≤ (12 * l1) + l4 ∧ (12 * l1) + l4 < 84) ∧ ((l4 = (M 275 10) → (-2147483648 ≤ (M 283 ((12 * l1) + l4)) + 100000000 ∧ (M 283 ((12 * l1) + l4)) + 100000000 ≤ 2147483647) ∧ ((l3 ≤ ((M 283 ((12 * l1) + l4)) + 100000000) → (-2147483648 ≤ l4 + 1 ∧ l4 + 1 ≤ 2147483647) ∧ AW mX9_layWalks 23 [(2, 275), (0, l1), (0, l2), (0, l3), (0, l4 + 1), (9, 0)] M Q) ∧ (¬ (l3 ≤ ((M 283 ((12 * l1) + l4)) + 100000000)) → (-2147483648 ≤ l4 + 1 ∧ l4 + 1 ≤ 2147483647) ∧ AW mX9_layWalks 23 [(2, 275), (0, l1), (0, l2), (0, (M 283 ((12 * l1) + l4)) + 100000000), (0, l4 + 1), (9, 0)] M Q))) ∧ (¬ l4 = (M 275 10) → ((l2 = (M 275 10) → (-2147483648 ≤ (M 283 ((12 * l1) + l4)) + 100000000 ∧ (M 283 ((12 * l1) + l4)) + 100000000 ≤ 2147483647) ∧ ((l3 ≤ ((M 283 ((12 * l1) + l4)) + 100000000) → (-2147483648 ≤ l4 + 1 ∧ l4 + 1 ≤ 2147483647) ∧ AW mX9_layWalks 23 [(2, 275), (0, l1), (0, l2), (0, l3), (0, l4 + 1), (9, 0)] M Q) ∧ (¬ (l3 ≤ ((M 283 ((12 * l1) + l4)) + 100000000)) → (-2147483648 ≤ l4 + 1 ∧ l4 + 1 ≤ 2147483647) ∧ AW mX9_layWalks 23 [(2, 275), (0, l1), (0, l2), (0, (M 283 ((12 * l1) + l4)) + 100000000), (0, l4 + 1), (9, 0)] M Q))) ∧ (¬ l2 = (M 275 10) → (-2147483648 ≤ 12 * l4 ∧ 12 * l4 ≤ 2147483647) ∧ (-2147483648 ≤ (12 * l4) + l2 ∧ (12 * l4) + l2 ≤ 2147483647) ∧ ((0 : Int) ≤ (12 * l4) + l2 ∧ (12 * l4) + l2 < 144) ∧ ((¬ (M 282 ((12 * l4) + l2)) = 0 → (-2147483648 ≤ (M 283 ((12 * l1) + l4)) + (M 282 ((12 * l4) + l2)) ∧ (M 283 ((12 * l1) + l4)) + (M 282 ((12 * l4) + l2)) ≤ 2147483647) ∧ ((l3 ≤ ((M 283 ((12 * l1) + l4)) + (M 282 ((12 * l4) + l2))) → (-2147483648 ≤ l4 + 1 ∧ l4 + 1 ≤ 2147483647) ∧ AW mX9_layWalks 23 [(2, 275), (0, l1), (0, l2), (0, l3), (0, l4 + 1), (9, 0)] M Q) ∧ (¬ (l3 ≤ ((M 283 ((12 * l1) + l4)) + (M 282 ((12 * l4) + l2)))) → (-2147483648 ≤ l4 + 1 ∧ l4 + 1 ≤ 2147483647) ∧ AW mX9_layWalks 23 [(2, 275), (0, l1), (0, l2), (0, (M 283 ((12 * l1) + l4)) + (M 282 ((12 * l4) + l2))), (0, l4 + 1), (9, 0)] M Q))) ∧ ((M 282 ((12 * l4) + l2)) = 0 → (-2147483648 ≤ (M 283 ((12 * l1) + l4)) + 100000000 ∧ (M 283 ((12 * l1) + l4)) + 100000000 ≤ 2147483647) ∧ ((l3 ≤ ((M 283 ((12 * l1) + l4)) + 100000000) → (-2147483648 ≤ l4 + 1 ∧ l4 + 1 ≤ 2147483647) ∧ AW mX9_layWalks 23 [(2, 275), (0, l1), (0, l2), (0, l3), (0, l4 + 1), (9, 0)] M Q) ∧ (¬ (l3 ≤ ((M 283 ((12 * l1) + l4)) + 100000000)) → (-2147483648 ≤ l4 + 1 ∧ l4 + 1 ≤ 2147483647) ∧ AW mX9_layWalks 23 [(2, 275), (0, l1), (0, l2), (0, (M 283 ((12 * l1) + l4)) + 100000000), (0, l4 + 1), (9, 0)] M Q))))))))) ∧ (l4 = l2 → ((l3 ≤ 100000000 → (-2147483648 ≤ l4 + 1 ∧ l4 + 1 ≤ 2147483647) ∧ AW mX9_layWalks 23 [(2, 275), (0, l1), (0, l2), (0, l3), (0, l4 + 1), (9, 0)] M Q) ∧ (¬ (l3 ≤ 100000000) → (-2147483648 ≤ l4 + 1 ∧ l4 + 1 ≤ 2147483647) ∧ AW mX9_layWalks 23 [(2, 275), (0, l1), (0, l2), (0, 100000000), (0, l4 + 1), (9, 0)] M Q))))))) : AW mX9_layWalks 23 [(2, 275), (0, l1), (0, l2), (0, l3), (0, l4), (9, 0)] M Q := by
  refine a_iload (pc := 23) dX9_layWalks_23 rfl ?_
  refine a_bipush (pc := 25) dX9_layWalks_25 (by decide) (by decide +kernel) ?_
  refine a_icmp_ge (tgt := 82) (pc := 27) dX9_layWalks_27 (by decide) (fun hc1 => ?_) (fun hc1 => ?_)
  · replace h := h.1 hc1
    refine a_aload_n (pc := 82) dX9_layWalks_82 (by decide) rfl ?_
    refine a_getR (y := 284) (pc := 83) dX9_layWalks_83 fl_RX9_41 (by decide) s0_275 rfl rfl ?_
    refine a_bipush (pc := 86) dX9_layWalks_86 (by decide) (by decide +kernel) ?_
    refine a_iload_n (pc := 88) dX9_layWalks_88 rfl ?_
    have ho2 := h.1
    replace h := h.2
    refine a_imul (pc := 89) dX9_layWalks_89 ho2 ?_
    refine a_iload_n (pc := 90) dX9_layWalks_90 rfl ?_
    have ho3 := h.1
    replace h := h.2
    refine a_iadd (pc := 91) dX9_layWalks_91 ho3 ?_
    refine a_iload_n (pc := 92) dX9_layWalks_92 rfl ?_
    refine a_ldc (v := 100000000) (pc := 93) dX9_layWalks_93 kc_RX9_112 (by decide) ?_
    refine a_icmp_ge (tgt := 102) (pc := 95) dX9_layWalks_95 (by decide) (fun hc4 => ?_) (fun hc4 => ?_)
    · replace h := h.1 hc4
      refine a_ldc (v := 100000000) (pc := 102) dX9_layWalks_102 kc_RX9_112 (by decide) ?_
      have ho5 := h.1
      replace h := h.2
      refine a_iast (pc := 104) dX9_layWalks_104 (by decide) s0_284 ho5.1 ho5.2 ?_
      have ho6 := h.1
      replace h := h.2
      refine a_iinc (ls1 := [(2, 275), (0, l1), (0, l2 + 1), (0, l3), (0, l4), (9, 0)]) (pc := 105) dX9_layWalks_105 rfl (by decide) (hp1 (t := 0) rfl (by decide)) ho6 rfl ?_
      refine a_goto (tgt := 2) (pc := 108) dX9_layWalks_108 (by decide) ?_
      exact a_msk [true, true, true, false, false, true] rfl h
    · replace h := h.2 hc4
      refine a_iload_n (pc := 98) dX9_layWalks_98 rfl ?_
      refine a_goto (tgt := 104) (pc := 99) dX9_layWalks_99 (by decide) ?_
      have ho7 := h.1
      replace h := h.2
      refine a_iast (pc := 104) dX9_layWalks_104 (by decide) s0_284 ho7.1 ho7.2 ?_
      have ho8 := h.1
      replace h := h.2
      refine a_iinc (ls1 := [(2, 275), (0, l1), (0, l2 + 1), (0, l3), (0, l4), (9, 0)]) (pc := 105) dX9_layWalks_105 rfl (by decide) (hp1 (t := 0) rfl (by decide)) ho8 rfl ?_
      refine a_goto (tgt := 2) (pc := 108) dX9_layWalks_108 (by decide) ?_
      exact a_msk [true, true, true, false, false, true] rfl h
  · replace h := h.2 hc1
    refine a_iload (pc := 30) dX9_layWalks_30 rfl ?_
    refine a_iload_n (pc := 32) dX9_layWalks_32 rfl ?_
    refine a_icmp_ne (tgt := 41) (pc := 33) dX9_layWalks_33 (by decide) (fun hc9 => ?_) (fun hc9 => ?_)
    · replace h := h.1 hc9
      refine a_aload_n (pc := 41) dX9_layWalks_41 (by decide) rfl ?_
      refine a_getR (y := 283) (pc := 42) dX9_layWalks_42 fl_RX9_38 (by decide) s0_275 rfl rfl ?_
      refine a_bipush (pc := 45) dX9_layWalks_45 (by decide) (by decide +kernel) ?_
      refine a_iload_n (pc := 47) dX9_layWalks_47 rfl ?_
      have ho10 := h.1
      replace h := h.2
      refine a_imul (pc := 48) dX9_layWalks_48 ho10 ?_
      refine a_iload (pc := 49) dX9_layWalks_49 rfl ?_
      have ho11 := h.1
      replace h := h.2
      refine a_iadd (pc := 51) dX9_layWalks_51 ho11 ?_
      have ho12 := h.1
      replace h := h.2
      refine a_iald (pc := 52) dX9_layWalks_52 (by decide) s0_283 ho12.1 ho12.2 ?_
      refine a_aload_n (pc := 53) dX9_layWalks_53 (by decide) rfl ?_
      refine a_iload (pc := 54) dX9_layWalks_54 rfl ?_
      refine a_iload_n (pc := 56) dX9_layWalks_56 rfl ?_
      refine p_inlV (Ex := _) (As := [(0, l4), (0, l2)]) (st := [(0, M 283 ((12 * l1) + l4))]) (st1 := fun r => [(0, r), (0, M 283 ((12 * l1) + l4))])  (pc := 57) dX9_layWalks_57 ml_RX9_113 (by decide) s0_275 rfl (by decide) (Nat.le_of_ble_eq_true rfl) rfl (fun _ => rfl) (by decide) (by decide) (Nat.le_of_ble_eq_true rfl) rfl ?_
      refine a_iload_n (pc := 0) dX9_footOf_0 rfl ?_
      refine a_aload_n (pc := 1) dX9_footOf_1 (by decide) rfl ?_
      refine a_getI (y := 10) (pc := 2) dX9_footOf_2 fl_RX9_35 (by decide) s0_275 (Or.inl rfl) rfl ?_
      refine a_icmp_eq (tgt := 30) (pc := 5) dX9_footOf_5 (by decide) (fun hc13 => ?_) (fun hc13 => ?_)
      · replace h := h.1 hc13
        refine a_ldc (v := 100000000) (pc := 30) dX9_footOf_30 kc_RX9_112 (by decide) ?_
        refine a_goto (tgt := 46) (pc := 32) dX9_footOf_32 (by decide) ?_
        refine a_ireti (pc := 46) dX9_footOf_46 rfl rfl (Nat.le_of_ble_eq_true rfl) ⟨rfl, ?_⟩
        have ho14 := h.1
        replace h := h.2
        refine a_iadd (pc := 60) dX9_layWalks_60 ho14 ?_
        refine a_istore (ls1 := [(2, 275), (0, l1), (0, l2), (0, l3), (0, l4), (0, (M 283 ((12 * l1) + l4)) + 100000000)]) (pc := 61) dX9_layWalks_61 (by decide) (hp1 (t := 0) rfl (by decide)) rfl ?_
        refine a_iload (pc := 63) dX9_layWalks_63 rfl ?_
        refine a_iload_n (pc := 65) dX9_layWalks_65 rfl ?_
        refine a_icmp_ge (tgt := 74) (pc := 66) dX9_layWalks_66 (by decide) (fun hc15 => ?_) (fun hc15 => ?_)
        · replace h := h.1 hc15
          refine a_iload_n (pc := 74) dX9_layWalks_74 rfl ?_
          refine a_istore_n (ls1 := [(2, 275), (0, l1), (0, l2), (0, l3), (0, l4), (0, (M 283 ((12 * l1) + l4)) + 100000000)]) (pc := 75) dX9_layWalks_75 (by decide) (hp1 (t := 0) rfl (by decide)) rfl ?_
          have ho16 := h.1
          replace h := h.2
          refine a_iinc (ls1 := [(2, 275), (0, l1), (0, l2), (0, l3), (0, l4 + 1), (0, (M 283 ((12 * l1) + l4)) + 100000000)]) (pc := 76) dX9_layWalks_76 rfl (by decide) (hp1 (t := 0) rfl (by decide)) ho16 rfl ?_
          refine a_goto (tgt := 23) (pc := 79) dX9_layWalks_79 (by decide) ?_
          exact a_msk [true, true, true, true, true, false] rfl h
        · replace h := h.2 hc15
          refine a_iload (pc := 69) dX9_layWalks_69 rfl ?_
          refine a_goto (tgt := 75) (pc := 71) dX9_layWalks_71 (by decide) ?_
          refine a_istore_n (ls1 := [(2, 275), (0, l1), (0, l2), (0, (M 283 ((12 * l1) + l4)) + 100000000), (0, l4), (0, (M 283 ((12 * l1) + l4)) + 100000000)]) (pc := 75) dX9_layWalks_75 (by decide) (hp1 (t := 0) rfl (by decide)) rfl ?_
          have ho17 := h.1
          replace h := h.2
          refine a_iinc (ls1 := [(2, 275), (0, l1), (0, l2), (0, (M 283 ((12 * l1) + l4)) + 100000000), (0, l4 + 1), (0, (M 283 ((12 * l1) + l4)) + 100000000)]) (pc := 76) dX9_layWalks_76 rfl (by decide) (hp1 (t := 0) rfl (by decide)) ho17 rfl ?_
          refine a_goto (tgt := 23) (pc := 79) dX9_layWalks_79 (by decide) ?_
          exact a_msk [true, true, true, true, true, false] rfl h
      · replace h := h.2 hc13
        refine a_iload_n (pc := 8) dX9_footOf_8 rfl ?_
        refine a_aload_n (pc := 9) dX9_footOf_9 (by decide) rfl ?_
        refine a_getI (y := 10) (pc := 10) dX9_footOf_10 fl_RX9_35 (by decide) s0_275 (Or.inl rfl) rfl ?_
        refine a_icmp_eq (tgt := 30) (pc := 13) dX9_footOf_13 (by decide) (fun hc18 => ?_) (fun hc18 => ?_)
        · replace h := h.1 hc18
          refine a_ldc (v := 100000000) (pc := 30) dX9_footOf_30 kc_RX9_112 (by decide) ?_
          refine a_goto (tgt := 46) (pc := 32) dX9_footOf_32 (by decide) ?_
          refine a_ireti (pc := 46) dX9_footOf_46 rfl rfl (Nat.le_of_ble_eq_true rfl) ⟨rfl, ?_⟩
          have ho19 := h.1
          replace h := h.2
          refine a_iadd (pc := 60) dX9_layWalks_60 ho19 ?_
          refine a_istore (ls1 := [(2, 275), (0, l1), (0, l2), (0, l3), (0, l4), (0, (M 283 ((12 * l1) + l4)) + 100000000)]) (pc := 61) dX9_layWalks_61 (by decide) (hp1 (t := 0) rfl (by decide)) rfl ?_
          refine a_iload (pc := 63) dX9_layWalks_63 rfl ?_
          refine a_iload_n (pc := 65) dX9_layWalks_65 rfl ?_
          refine a_icmp_ge (tgt := 74) (pc := 66) dX9_layWalks_66 (by decide) (fun hc20 => ?_) (fun hc20 => ?_)
          · replace h := h.1 hc20
            refine a_iload_n (pc := 74) dX9_layWalks_74 rfl ?_
            refine a_istore_n (ls1 := [(2, 275), (0, l1), (0, l2), (0, l3), (0, l4), (0, (M 283 ((12 * l1) + l4)) + 100000000)]) (pc := 75) dX9_layWalks_75 (by decide) (hp1 (t := 0) rfl (by decide)) rfl ?_
            have ho21 := h.1
            replace h := h.2
            refine a_iinc (ls1 := [(2, 275), (0, l1), (0, l2), (0, l3), (0, l4 + 1), (0, (M 283 ((12 * l1) + l4)) + 100000000)]) (pc := 76) dX9_layWalks_76 rfl (by decide) (hp1 (t := 0) rfl (by decide)) ho21 rfl ?_
            refine a_goto (tgt := 23) (pc := 79) dX9_layWalks_79 (by decide) ?_
            exact a_msk [true, true, true, true, true, false] rfl h
          · replace h := h.2 hc20
            refine a_iload (pc := 69) dX9_layWalks_69 rfl ?_
            refine a_goto (tgt := 75) (pc := 71) dX9_layWalks_71 (by decide) ?_
            refine a_istore_n (ls1 := [(2, 275), (0, l1), (0, l2), (0, (M 283 ((12 * l1) + l4)) + 100000000), (0, l4), (0, (M 283 ((12 * l1) + l4)) + 100000000)]) (pc := 75) dX9_layWalks_75 (by decide) (hp1 (t := 0) rfl (by decide)) rfl ?_
            have ho22 := h.1
            replace h := h.2
            refine a_iinc (ls1 := [(2, 275), (0, l1), (0, l2), (0, (M 283 ((12 * l1) + l4)) + 100000000), (0, l4 + 1), (0, (M 283 ((12 * l1) + l4)) + 100000000)]) (pc := 76) dX9_layWalks_76 rfl (by decide) (hp1 (t := 0) rfl (by decide)) ho22 rfl ?_
            refine a_goto (tgt := 23) (pc := 79) dX9_layWalks_79 (by decide) ?_
            exact a_msk [true, true, true, true, true, false] rfl h
        · replace h := h.2 hc18
          refine a_aload_n (pc := 16) dX9_footOf_16 (by decide) rfl ?_
          refine a_getR (y := 282) (pc := 17) dX9_footOf_17 fl_RX9_28 (by decide) s0_275 rfl rfl ?_
          refine a_bipush (pc := 20) dX9_footOf_20 (by decide) (by decide +kernel) ?_
          refine a_iload_n (pc := 22) dX9_footOf_22 rfl ?_
          have ho23 := h.1
          replace h := h.2
          refine a_imul (pc := 23) dX9_footOf_23 ho23 ?_
          refine a_iload_n (pc := 24) dX9_footOf_24 rfl ?_
          have ho24 := h.1
          replace h := h.2
          refine a_iadd (pc := 25) dX9_footOf_25 ho24 ?_
          have ho25 := h.1
          replace h := h.2
          refine a_iald (pc := 26) dX9_footOf_26 (by decide) s0_282 ho25.1 ho25.2 ?_
          refine a_if_ne (tgt := 35) (pc := 27) dX9_footOf_27 (by decide) (fun hc26 => ?_) (fun hc26 => ?_)
          · replace h := h.1 hc26
            refine a_aload_n (pc := 35) dX9_footOf_35 (by decide) rfl ?_
            refine a_getR (y := 282) (pc := 36) dX9_footOf_36 fl_RX9_28 (by decide) s0_275 rfl rfl ?_
            refine a_bipush (pc := 39) dX9_footOf_39 (by decide) (by decide +kernel) ?_
            refine a_iload_n (pc := 41) dX9_footOf_41 rfl ?_
            refine a_imul (pc := 42) dX9_footOf_42 ho23 ?_
            refine a_iload_n (pc := 43) dX9_footOf_43 rfl ?_
            refine a_iadd (pc := 44) dX9_footOf_44 ho24 ?_
            refine a_iald (pc := 45) dX9_footOf_45 (by decide) s0_282 ho25.1 ho25.2 ?_
            refine a_ireti (pc := 46) dX9_footOf_46 rfl rfl (Nat.le_of_ble_eq_true rfl) ⟨rfl, ?_⟩
            have ho27 := h.1
            replace h := h.2
            refine a_iadd (pc := 60) dX9_layWalks_60 ho27 ?_
            refine a_istore (ls1 := [(2, 275), (0, l1), (0, l2), (0, l3), (0, l4), (0, (M 283 ((12 * l1) + l4)) + (M 282 ((12 * l4) + l2)))]) (pc := 61) dX9_layWalks_61 (by decide) (hp1 (t := 0) rfl (by decide)) rfl ?_
            refine a_iload (pc := 63) dX9_layWalks_63 rfl ?_
            refine a_iload_n (pc := 65) dX9_layWalks_65 rfl ?_
            refine a_icmp_ge (tgt := 74) (pc := 66) dX9_layWalks_66 (by decide) (fun hc28 => ?_) (fun hc28 => ?_)
            · replace h := h.1 hc28
              refine a_iload_n (pc := 74) dX9_layWalks_74 rfl ?_
              refine a_istore_n (ls1 := [(2, 275), (0, l1), (0, l2), (0, l3), (0, l4), (0, (M 283 ((12 * l1) + l4)) + (M 282 ((12 * l4) + l2)))]) (pc := 75) dX9_layWalks_75 (by decide) (hp1 (t := 0) rfl (by decide)) rfl ?_
              have ho29 := h.1
              replace h := h.2
              refine a_iinc (ls1 := [(2, 275), (0, l1), (0, l2), (0, l3), (0, l4 + 1), (0, (M 283 ((12 * l1) + l4)) + (M 282 ((12 * l4) + l2)))]) (pc := 76) dX9_layWalks_76 rfl (by decide) (hp1 (t := 0) rfl (by decide)) ho29 rfl ?_
              refine a_goto (tgt := 23) (pc := 79) dX9_layWalks_79 (by decide) ?_
              exact a_msk [true, true, true, true, true, false] rfl h
            · replace h := h.2 hc28
              refine a_iload (pc := 69) dX9_layWalks_69 rfl ?_
              refine a_goto (tgt := 75) (pc := 71) dX9_layWalks_71 (by decide) ?_
              refine a_istore_n (ls1 := [(2, 275), (0, l1), (0, l2), (0, (M 283 ((12 * l1) + l4)) + (M 282 ((12 * l4) + l2))), (0, l4), (0, (M 283 ((12 * l1) + l4)) + (M 282 ((12 * l4) + l2)))]) (pc := 75) dX9_layWalks_75 (by decide) (hp1 (t := 0) rfl (by decide)) rfl ?_
              have ho30 := h.1
              replace h := h.2
              refine a_iinc (ls1 := [(2, 275), (0, l1), (0, l2), (0, (M 283 ((12 * l1) + l4)) + (M 282 ((12 * l4) + l2))), (0, l4 + 1), (0, (M 283 ((12 * l1) + l4)) + (M 282 ((12 * l4) + l2)))]) (pc := 76) dX9_layWalks_76 rfl (by decide) (hp1 (t := 0) rfl (by decide)) ho30 rfl ?_
              refine a_goto (tgt := 23) (pc := 79) dX9_layWalks_79 (by decide) ?_
              exact a_msk [true, true, true, true, true, false] rfl h
          · replace h := h.2 hc26
            refine a_ldc (v := 100000000) (pc := 30) dX9_footOf_30 kc_RX9_112 (by decide) ?_
            refine a_goto (tgt := 46) (pc := 32) dX9_footOf_32 (by decide) ?_
            refine a_ireti (pc := 46) dX9_footOf_46 rfl rfl (Nat.le_of_ble_eq_true rfl) ⟨rfl, ?_⟩
            have ho31 := h.1
            replace h := h.2
            refine a_iadd (pc := 60) dX9_layWalks_60 ho31 ?_
            refine a_istore (ls1 := [(2, 275), (0, l1), (0, l2), (0, l3), (0, l4), (0, (M 283 ((12 * l1) + l4)) + 100000000)]) (pc := 61) dX9_layWalks_61 (by decide) (hp1 (t := 0) rfl (by decide)) rfl ?_
            refine a_iload (pc := 63) dX9_layWalks_63 rfl ?_
            refine a_iload_n (pc := 65) dX9_layWalks_65 rfl ?_
            refine a_icmp_ge (tgt := 74) (pc := 66) dX9_layWalks_66 (by decide) (fun hc32 => ?_) (fun hc32 => ?_)
            · replace h := h.1 hc32
              refine a_iload_n (pc := 74) dX9_layWalks_74 rfl ?_
              refine a_istore_n (ls1 := [(2, 275), (0, l1), (0, l2), (0, l3), (0, l4), (0, (M 283 ((12 * l1) + l4)) + 100000000)]) (pc := 75) dX9_layWalks_75 (by decide) (hp1 (t := 0) rfl (by decide)) rfl ?_
              have ho33 := h.1
              replace h := h.2
              refine a_iinc (ls1 := [(2, 275), (0, l1), (0, l2), (0, l3), (0, l4 + 1), (0, (M 283 ((12 * l1) + l4)) + 100000000)]) (pc := 76) dX9_layWalks_76 rfl (by decide) (hp1 (t := 0) rfl (by decide)) ho33 rfl ?_
              refine a_goto (tgt := 23) (pc := 79) dX9_layWalks_79 (by decide) ?_
              exact a_msk [true, true, true, true, true, false] rfl h
            · replace h := h.2 hc32
              refine a_iload (pc := 69) dX9_layWalks_69 rfl ?_
              refine a_goto (tgt := 75) (pc := 71) dX9_layWalks_71 (by decide) ?_
              refine a_istore_n (ls1 := [(2, 275), (0, l1), (0, l2), (0, (M 283 ((12 * l1) + l4)) + 100000000), (0, l4), (0, (M 283 ((12 * l1) + l4)) + 100000000)]) (pc := 75) dX9_layWalks_75 (by decide) (hp1 (t := 0) rfl (by decide)) rfl ?_
              have ho34 := h.1
              replace h := h.2
              refine a_iinc (ls1 := [(2, 275), (0, l1), (0, l2), (0, (M 283 ((12 * l1) + l4)) + 100000000), (0, l4 + 1), (0, (M 283 ((12 * l1) + l4)) + 100000000)]) (pc := 76) dX9_layWalks_76 rfl (by decide) (hp1 (t := 0) rfl (by decide)) ho34 rfl ?_
              refine a_goto (tgt := 23) (pc := 79) dX9_layWalks_79 (by decide) ?_
              exact a_msk [true, true, true, true, true, false] rfl h
    · replace h := h.2 hc9
      refine a_ldc (v := 100000000) (pc := 36) dX9_layWalks_36 kc_RX9_112 (by decide) ?_
      refine a_goto (tgt := 61) (pc := 38) dX9_layWalks_38 (by decide) ?_
      refine a_istore (ls1 := [(2, 275), (0, l1), (0, l2), (0, l3), (0, l4), (0, 100000000)]) (pc := 61) dX9_layWalks_61 (by decide) (hp1 (t := 0) rfl (by decide)) rfl ?_
      refine a_iload (pc := 63) dX9_layWalks_63 rfl ?_
      refine a_iload_n (pc := 65) dX9_layWalks_65 rfl ?_
      refine a_icmp_ge (tgt := 74) (pc := 66) dX9_layWalks_66 (by decide) (fun hc35 => ?_) (fun hc35 => ?_)
      · replace h := h.1 hc35
        refine a_iload_n (pc := 74) dX9_layWalks_74 rfl ?_
        refine a_istore_n (ls1 := [(2, 275), (0, l1), (0, l2), (0, l3), (0, l4), (0, 100000000)]) (pc := 75) dX9_layWalks_75 (by decide) (hp1 (t := 0) rfl (by decide)) rfl ?_
        have ho36 := h.1
        replace h := h.2
        refine a_iinc (ls1 := [(2, 275), (0, l1), (0, l2), (0, l3), (0, l4 + 1), (0, 100000000)]) (pc := 76) dX9_layWalks_76 rfl (by decide) (hp1 (t := 0) rfl (by decide)) ho36 rfl ?_
        refine a_goto (tgt := 23) (pc := 79) dX9_layWalks_79 (by decide) ?_
        exact a_msk [true, true, true, true, true, false] rfl h
      · replace h := h.2 hc35
        refine a_iload (pc := 69) dX9_layWalks_69 rfl ?_
        refine a_goto (tgt := 75) (pc := 71) dX9_layWalks_71 (by decide) ?_
        refine a_istore_n (ls1 := [(2, 275), (0, l1), (0, l2), (0, 100000000), (0, l4), (0, 100000000)]) (pc := 75) dX9_layWalks_75 (by decide) (hp1 (t := 0) rfl (by decide)) rfl ?_
        have ho37 := h.1
        replace h := h.2
        refine a_iinc (ls1 := [(2, 275), (0, l1), (0, l2), (0, 100000000), (0, l4 + 1), (0, 100000000)]) (pc := 76) dX9_layWalks_76 rfl (by decide) (hp1 (t := 0) rfl (by decide)) ho37 rfl ?_
        refine a_goto (tgt := 23) (pc := 79) dX9_layWalks_79 (by decide) ?_
        exact a_msk [true, true, true, true, true, false] rfl h
theorem E_R_layWalks {l1 : Int} {M : Mem} {Q : Int → Mem → Prop} (h : AW mX9_layWalks 0 [(2, 275), (0, l1), (9, 0), (9, 0), (9, 0), (9, 0)] M Q) : Calls mX9_layWalks [(2, 275), (0, l1)] S0 M Q := calls_of (by decide) (by decide) (Nat.le_of_ble_eq_true rfl) rfl h
set_option maxRecDepth 100000 in
set_option maxHeartbeats 4000000 in
theorem B_R_placeOn_0 {l1 l2 : Int} {M : Mem} {Q : Int → Mem → Prop} (h : AW mX9_placeOn 5 [(2, 275), (0, l1), (0, l2), (0, (-1)), (0, 0)] M Q) : AW mX9_placeOn 0 [(2, 275), (0, l1), (0, l2), (9, 0), (9, 0)] M Q := by
  refine a_iconst (pc := 0) dX9_placeOn_0 (by decide) ?_
  refine a_istore_n (ls1 := [(2, 275), (0, l1), (0, l2), (0, (-1)), (9, 0)]) (pc := 1) dX9_placeOn_1 (by decide) (hp1 (t := 0) rfl (by decide)) rfl ?_
  refine a_iconst (pc := 2) dX9_placeOn_2 (by decide) ?_
  refine a_istore (ls1 := [(2, 275), (0, l1), (0, l2), (0, (-1)), (0, 0)]) (pc := 3) dX9_placeOn_3 (by decide) (hp1 (t := 0) rfl (by decide)) rfl ?_
  exact h
set_option maxRecDepth 100000 in
set_option maxHeartbeats 4000000 in
theorem B_R_placeOn_5 {l1 l2 l3 l4 : Int} {M : Mem} {Q : Int → Mem → Prop} (h : ((0 : Int) ≤ l1 ∧ l1 < 8) ∧ (((M 277 l1) ≤ l4 → Q l3 M) ∧ (¬ ((M 277 l1) ≤ l4) → (-2147483648 ≤ 6 * l1 ∧ 6 * l1 ≤ 2147483647) ∧ (-2147483648 ≤ (6 * l1) + l4 ∧ (6 * l1) + l4 ≤ 2147483647) ∧ ((0 : Int) ≤ (6 * l1) + l4 ∧ (6 * l1) + l4 < 48) ∧ ((¬ (M 278 ((6 * l1) + l4)) = l2 → (-2147483648 ≤ l4 + 1 ∧ l4 + 1 ≤ 2147483647) ∧ AW mX9_placeOn 5 [(2, 275), (0, l1), (0, l2), (0, l3), (0, l4 + 1)] M Q) ∧ ((M 278 ((6 * l1) + l4)) = l2 → (-2147483648 ≤ l4 + 1 ∧ l4 + 1 ≤ 2147483647) ∧ AW mX9_placeOn 5 [(2, 275), (0, l1), (0, l2), (0, l4), (0, l4 + 1)] M Q))))) : AW mX9_placeOn 5 [(2, 275), (0, l1), (0, l2), (0, l3), (0, l4)] M Q := by
  refine a_iload (pc := 5) dX9_placeOn_5 rfl ?_
  refine a_aload_n (pc := 7) dX9_placeOn_7 (by decide) rfl ?_
  refine a_getR (y := 277) (pc := 8) dX9_placeOn_8 fl_RX9_13 (by decide) s0_275 rfl rfl ?_
  refine a_iload_n (pc := 11) dX9_placeOn_11 rfl ?_
  have ho1 := h.1
  replace h := h.2
  refine a_iald (pc := 12) dX9_placeOn_12 (by decide) s0_277 ho1.1 ho1.2 ?_
  refine a_icmp_ge (tgt := 40) (pc := 13) dX9_placeOn_13 (by decide) (fun hc2 => ?_) (fun hc2 => ?_)
  · replace h := h.1 hc2
    refine a_iload_n (pc := 40) dX9_placeOn_40 rfl ?_
    exact a_ireti (pc := 41) dX9_placeOn_41 rfl rfl (Nat.le_of_ble_eq_true rfl) ⟨rfl, h⟩
  · replace h := h.2 hc2
    refine a_aload_n (pc := 16) dX9_placeOn_16 (by decide) rfl ?_
    refine a_iload_n (pc := 17) dX9_placeOn_17 rfl ?_
    refine a_iload (pc := 18) dX9_placeOn_18 rfl ?_
    refine p_inlV (Ex := _) (As := [(0, l1), (0, l4)]) (st := []) (st1 := fun r => [(0, r)])  (pc := 20) dX9_placeOn_20 ml_RX9_117 (by decide) s0_275 rfl (by decide) (Nat.le_of_ble_eq_true rfl) rfl (fun _ => rfl) (by decide) (by decide) (Nat.le_of_ble_eq_true rfl) rfl ?_
    refine a_aload_n (pc := 0) dX9_stopAt_0 (by decide) rfl ?_
    refine a_getR (y := 278) (pc := 1) dX9_stopAt_1 fl_RX9_16 (by decide) s0_275 rfl rfl ?_
    refine a_bipush (pc := 4) dX9_stopAt_4 (by decide) (by decide +kernel) ?_
    refine a_iload_n (pc := 6) dX9_stopAt_6 rfl ?_
    have ho3 := h.1
    replace h := h.2
    refine a_imul (pc := 7) dX9_stopAt_7 ho3 ?_
    refine a_iload_n (pc := 8) dX9_stopAt_8 rfl ?_
    have ho4 := h.1
    replace h := h.2
    refine a_iadd (pc := 9) dX9_stopAt_9 ho4 ?_
    have ho5 := h.1
    replace h := h.2
    refine a_iald (pc := 10) dX9_stopAt_10 (by decide) s0_278 ho5.1 ho5.2 ?_
    refine a_ireti (pc := 11) dX9_stopAt_11 rfl rfl (Nat.le_of_ble_eq_true rfl) ⟨rfl, ?_⟩
    refine a_iload_n (pc := 23) dX9_placeOn_23 rfl ?_
    refine a_icmp_ne (tgt := 32) (pc := 24) dX9_placeOn_24 (by decide) (fun hc6 => ?_) (fun hc6 => ?_)
    · replace h := h.1 hc6
      refine a_iload_n (pc := 32) dX9_placeOn_32 rfl ?_
      refine a_istore_n (ls1 := [(2, 275), (0, l1), (0, l2), (0, l3), (0, l4)]) (pc := 33) dX9_placeOn_33 (by decide) (hp1 (t := 0) rfl (by decide)) rfl ?_
      have ho7 := h.1
      replace h := h.2
      refine a_iinc (ls1 := [(2, 275), (0, l1), (0, l2), (0, l3), (0, l4 + 1)]) (pc := 34) dX9_placeOn_34 rfl (by decide) (hp1 (t := 0) rfl (by decide)) ho7 rfl ?_
      refine a_goto (tgt := 5) (pc := 37) dX9_placeOn_37 (by decide) ?_
      exact h
    · replace h := h.2 hc6
      refine a_iload (pc := 27) dX9_placeOn_27 rfl ?_
      refine a_goto (tgt := 33) (pc := 29) dX9_placeOn_29 (by decide) ?_
      refine a_istore_n (ls1 := [(2, 275), (0, l1), (0, l2), (0, l4), (0, l4)]) (pc := 33) dX9_placeOn_33 (by decide) (hp1 (t := 0) rfl (by decide)) rfl ?_
      have ho8 := h.1
      replace h := h.2
      refine a_iinc (ls1 := [(2, 275), (0, l1), (0, l2), (0, l4), (0, l4 + 1)]) (pc := 34) dX9_placeOn_34 rfl (by decide) (hp1 (t := 0) rfl (by decide)) ho8 rfl ?_
      refine a_goto (tgt := 5) (pc := 37) dX9_placeOn_37 (by decide) ?_
      exact h
theorem E_R_placeOn {l1 l2 : Int} {M : Mem} {Q : Int → Mem → Prop} (h : AW mX9_placeOn 0 [(2, 275), (0, l1), (0, l2), (9, 0), (9, 0)] M Q) : Calls mX9_placeOn [(2, 275), (0, l1), (0, l2)] S0 M Q := calls_of (by decide) (by decide) (Nat.le_of_ble_eq_true rfl) rfl h
set_option maxRecDepth 100000 in
set_option maxHeartbeats 4000000 in
theorem B_R_boardedAt_0 {l1 l2 l3 l4 l5 : Int} {M : Mem} {Q : Int → Mem → Prop} (h : AW mX9_boardedAt 6 [(2, 275), (0, l1), (0, l2), (0, l3), (0, l4), (0, l5), (0, (-1)), (0, 0), (9, 0)] M Q) : AW mX9_boardedAt 0 [(2, 275), (0, l1), (0, l2), (0, l3), (0, l4), (0, l5), (9, 0), (9, 0), (9, 0)] M Q := by
  refine a_iconst (pc := 0) dX9_boardedAt_0 (by decide) ?_
  refine a_istore (ls1 := [(2, 275), (0, l1), (0, l2), (0, l3), (0, l4), (0, l5), (0, (-1)), (9, 0), (9, 0)]) (pc := 1) dX9_boardedAt_1 (by decide) (hp1 (t := 0) rfl (by decide)) rfl ?_
  refine a_iconst (pc := 3) dX9_boardedAt_3 (by decide) ?_
  refine a_istore (ls1 := [(2, 275), (0, l1), (0, l2), (0, l3), (0, l4), (0, l5), (0, (-1)), (0, 0), (9, 0)]) (pc := 4) dX9_boardedAt_4 (by decide) (hp1 (t := 0) rfl (by decide)) rfl ?_
  exact h
set_option maxRecDepth 100000 in
set_option maxHeartbeats 4000000 in
theorem B_R_boardedAt_6 {l1 l2 l3 l4 l5 l6 l7 : Int} {M : Mem} {Q : Int → Mem → Prop} (h : ((0 : Int) ≤ l1 ∧ l1 < 8) ∧ (((M 277 l1) ≤ l7 → AW mX9_boardedAt 62 [(2, 275), (0, l1), (0, l2), (9, 0), (9, 0), (0, l5), (0, l6), (0, (-1)), (0, 0)] M Q) ∧ (¬ ((M 277 l1) ≤ l7) → (-2147483648 ≤ 6 * l1 ∧ 6 * l1 ≤ 2147483647) ∧ (-2147483648 ≤ (6 * l1) + l7 ∧ (6 * l1) + l7 ≤ 2147483647) ∧ ((0 : Int) ≤ (6 * l1) + l7 ∧ (6 * l1) + l7 < 48) ∧ ((¬ (M 278 ((6 * l1) + l7)) = l3 → (-2147483648 ≤ l7 + 1 ∧ l7 + 1 ≤ 2147483647) ∧ AW mX9_boardedAt 6 [(2, 275), (0, l1), (0, l2), (0, l3), (0, l4), (0, l5), (0, l6), (0, l7 + 1), (9, 0)] M Q) ∧ ((M 278 ((6 * l1) + l7)) = l3 → (-2147483648 ≤ 36 * l1 ∧ 36 * l1 ≤ 2147483647) ∧ (-2147483648 ≤ 6 * l2 ∧ 6 * l2 ≤ 2147483647) ∧ (-2147483648 ≤ (36 * l1) + (6 * l2) ∧ (36 * l1) + (6 * l2) ≤ 2147483647) ∧ (-2147483648 ≤ ((36 * l1) + (6 * l2)) + l7 ∧ ((36 * l1) + (6 * l2)) + l7 ≤ 2147483647) ∧ ((0 : Int) ≤ ((36 * l1) + (6 * l2)) + l7 ∧ ((36 * l1) + (6 * l2)) + l7 < 288) ∧ ((¬ (M 281 (((36 * l1) + (6 * l2)) + l7)) = l4 → (-2147483648 ≤ l7 + 1 ∧ l7 + 1 ≤ 2147483647) ∧ AW mX9_boardedAt 6 [(2, 275), (0, l1), (0, l2), (0, l3), (0, l4), (0, l5), (0, l6), (0, l7 + 1), (9, 0)] M Q) ∧ ((M 281 (((36 * l1) + (6 * l2)) + l7)) = l4 → (-2147483648 ≤ l7 + 1 ∧ l7 + 1 ≤ 2147483647) ∧ AW mX9_boardedAt 6 [(2, 275), (0, l1), (0, l2), (0, l3), (0, l4), (0, l5), (0, l7), (0, l7 + 1), (9, 0)] M Q))))))) : AW mX9_boardedAt 6 [(2, 275), (0, l1), (0, l2), (0, l3), (0, l4), (0, l5), (0, l6), (0, l7), (9, 0)] M Q := by
  refine a_iload (pc := 6) dX9_boardedAt_6 rfl ?_
  refine a_aload_n (pc := 8) dX9_boardedAt_8 (by decide) rfl ?_
  refine a_getR (y := 277) (pc := 9) dX9_boardedAt_9 fl_RX9_13 (by decide) s0_275 rfl rfl ?_
  refine a_iload_n (pc := 12) dX9_boardedAt_12 rfl ?_
  have ho1 := h.1
  replace h := h.2
  refine a_iald (pc := 13) dX9_boardedAt_13 (by decide) s0_277 ho1.1 ho1.2 ?_
  refine a_icmp_ge (tgt := 56) (pc := 14) dX9_boardedAt_14 (by decide) (fun hc2 => ?_) (fun hc2 => ?_)
  · replace h := h.1 hc2
    refine a_iconst (pc := 56) dX9_boardedAt_56 (by decide) ?_
    refine a_istore (ls1 := [(2, 275), (0, l1), (0, l2), (0, l3), (0, l4), (0, l5), (0, l6), (0, (-1)), (9, 0)]) (pc := 57) dX9_boardedAt_57 (by decide) (hp1 (t := 0) rfl (by decide)) rfl ?_
    refine a_iconst (pc := 59) dX9_boardedAt_59 (by decide) ?_
    refine a_istore (ls1 := [(2, 275), (0, l1), (0, l2), (0, l3), (0, l4), (0, l5), (0, l6), (0, (-1)), (0, 0)]) (pc := 60) dX9_boardedAt_60 (by decide) (hp1 (t := 0) rfl (by decide)) rfl ?_
    exact a_msk [true, true, true, false, false, true, true, true, true] rfl h
  · replace h := h.2 hc2
    refine a_aload_n (pc := 17) dX9_boardedAt_17 (by decide) rfl ?_
    refine a_iload_n (pc := 18) dX9_boardedAt_18 rfl ?_
    refine a_iload (pc := 19) dX9_boardedAt_19 rfl ?_
    refine p_inlV (Ex := _) (As := [(0, l1), (0, l7)]) (st := []) (st1 := fun r => [(0, r)])  (pc := 21) dX9_boardedAt_21 ml_RX9_117 (by decide) s0_275 rfl (by decide) (Nat.le_of_ble_eq_true rfl) rfl (fun _ => rfl) (by decide) (by decide) (Nat.le_of_ble_eq_true rfl) rfl ?_
    refine a_aload_n (pc := 0) dX9_stopAt_0 (by decide) rfl ?_
    refine a_getR (y := 278) (pc := 1) dX9_stopAt_1 fl_RX9_16 (by decide) s0_275 rfl rfl ?_
    refine a_bipush (pc := 4) dX9_stopAt_4 (by decide) (by decide +kernel) ?_
    refine a_iload_n (pc := 6) dX9_stopAt_6 rfl ?_
    have ho3 := h.1
    replace h := h.2
    refine a_imul (pc := 7) dX9_stopAt_7 ho3 ?_
    refine a_iload_n (pc := 8) dX9_stopAt_8 rfl ?_
    have ho4 := h.1
    replace h := h.2
    refine a_iadd (pc := 9) dX9_stopAt_9 ho4 ?_
    have ho5 := h.1
    replace h := h.2
    refine a_iald (pc := 10) dX9_stopAt_10 (by decide) s0_278 ho5.1 ho5.2 ?_
    refine a_ireti (pc := 11) dX9_stopAt_11 rfl rfl (Nat.le_of_ble_eq_true rfl) ⟨rfl, ?_⟩
    refine a_iload_n (pc := 24) dX9_boardedAt_24 rfl ?_
    refine a_icmp_ne (tgt := 46) (pc := 25) dX9_boardedAt_25 (by decide) (fun hc6 => ?_) (fun hc6 => ?_)
    · replace h := h.1 hc6
      refine a_iload (pc := 46) dX9_boardedAt_46 rfl ?_
      refine a_istore (ls1 := [(2, 275), (0, l1), (0, l2), (0, l3), (0, l4), (0, l5), (0, l6), (0, l7), (9, 0)]) (pc := 48) dX9_boardedAt_48 (by decide) (hp1 (t := 0) rfl (by decide)) rfl ?_
      have ho7 := h.1
      replace h := h.2
      refine a_iinc (ls1 := [(2, 275), (0, l1), (0, l2), (0, l3), (0, l4), (0, l5), (0, l6), (0, l7 + 1), (9, 0)]) (pc := 50) dX9_boardedAt_50 rfl (by decide) (hp1 (t := 0) rfl (by decide)) ho7 rfl ?_
      refine a_goto (tgt := 6) (pc := 53) dX9_boardedAt_53 (by decide) ?_
      exact h
    · replace h := h.2 hc6
      refine a_aload_n (pc := 28) dX9_boardedAt_28 (by decide) rfl ?_
      refine a_iload_n (pc := 29) dX9_boardedAt_29 rfl ?_
      refine a_iload_n (pc := 30) dX9_boardedAt_30 rfl ?_
      refine a_iload (pc := 31) dX9_boardedAt_31 rfl ?_
      refine p_inlV (Ex := _) (As := [(0, l1), (0, l2), (0, l7)]) (st := []) (st1 := fun r => [(0, r)])  (pc := 33) dX9_boardedAt_33 ml_RX9_120 (by decide) s0_275 rfl (by decide) (Nat.le_of_ble_eq_true rfl) rfl (fun _ => rfl) (by decide) (by decide) (Nat.le_of_ble_eq_true rfl) rfl ?_
      refine a_aload_n (pc := 0) dX9_minuteAt_0 (by decide) rfl ?_
      refine a_getR (y := 281) (pc := 1) dX9_minuteAt_1 fl_RX9_25 (by decide) s0_275 rfl rfl ?_
      refine a_bipush (pc := 4) dX9_minuteAt_4 (by decide) (by decide +kernel) ?_
      refine a_iload_n (pc := 6) dX9_minuteAt_6 rfl ?_
      have ho8 := h.1
      replace h := h.2
      refine a_imul (pc := 7) dX9_minuteAt_7 ho8 ?_
      refine a_bipush (pc := 8) dX9_minuteAt_8 (by decide) (by decide +kernel) ?_
      refine a_iload_n (pc := 10) dX9_minuteAt_10 rfl ?_
      have ho9 := h.1
      replace h := h.2
      refine a_imul (pc := 11) dX9_minuteAt_11 ho9 ?_
      have ho10 := h.1
      replace h := h.2
      refine a_iadd (pc := 12) dX9_minuteAt_12 ho10 ?_
      refine a_iload_n (pc := 13) dX9_minuteAt_13 rfl ?_
      have ho11 := h.1
      replace h := h.2
      refine a_iadd (pc := 14) dX9_minuteAt_14 ho11 ?_
      have ho12 := h.1
      replace h := h.2
      refine a_iald (pc := 15) dX9_minuteAt_15 (by decide) s0_281 ho12.1 ho12.2 ?_
      refine a_ireti (pc := 16) dX9_minuteAt_16 rfl rfl (Nat.le_of_ble_eq_true rfl) ⟨rfl, ?_⟩
      refine a_iload (pc := 36) dX9_boardedAt_36 rfl ?_
      refine a_icmp_ne (tgt := 46) (pc := 38) dX9_boardedAt_38 (by decide) (fun hc13 => ?_) (fun hc13 => ?_)
      · replace h := h.1 hc13
        refine a_iload (pc := 46) dX9_boardedAt_46 rfl ?_
        refine a_istore (ls1 := [(2, 275), (0, l1), (0, l2), (0, l3), (0, l4), (0, l5), (0, l6), (0, l7), (9, 0)]) (pc := 48) dX9_boardedAt_48 (by decide) (hp1 (t := 0) rfl (by decide)) rfl ?_
        have ho14 := h.1
        replace h := h.2
        refine a_iinc (ls1 := [(2, 275), (0, l1), (0, l2), (0, l3), (0, l4), (0, l5), (0, l6), (0, l7 + 1), (9, 0)]) (pc := 50) dX9_boardedAt_50 rfl (by decide) (hp1 (t := 0) rfl (by decide)) ho14 rfl ?_
        refine a_goto (tgt := 6) (pc := 53) dX9_boardedAt_53 (by decide) ?_
        exact h
      · replace h := h.2 hc13
        refine a_iload (pc := 41) dX9_boardedAt_41 rfl ?_
        refine a_goto (tgt := 48) (pc := 43) dX9_boardedAt_43 (by decide) ?_
        refine a_istore (ls1 := [(2, 275), (0, l1), (0, l2), (0, l3), (0, l4), (0, l5), (0, l7), (0, l7), (9, 0)]) (pc := 48) dX9_boardedAt_48 (by decide) (hp1 (t := 0) rfl (by decide)) rfl ?_
        have ho15 := h.1
        replace h := h.2
        refine a_iinc (ls1 := [(2, 275), (0, l1), (0, l2), (0, l3), (0, l4), (0, l5), (0, l7), (0, l7 + 1), (9, 0)]) (pc := 50) dX9_boardedAt_50 rfl (by decide) (hp1 (t := 0) rfl (by decide)) ho15 rfl ?_
        refine a_goto (tgt := 6) (pc := 53) dX9_boardedAt_53 (by decide) ?_
        exact h
set_option maxRecDepth 100000 in
set_option maxHeartbeats 4000000 in
theorem B_R_boardedAt_62 {l1 l2 l5 l6 l7 l8 : Int} {M : Mem} {Q : Int → Mem → Prop} (h : ((l6 ≤ l8 → Q l7 M) ∧ (¬ (l6 ≤ l8) → (-2147483648 ≤ l5 - 1 ∧ l5 - 1 ≤ 2147483647) ∧ (-2147483648 ≤ 12 * (l5 - 1) ∧ 12 * (l5 - 1) ≤ 2147483647) ∧ (-2147483648 ≤ 6 * l1 ∧ 6 * l1 ≤ 2147483647) ∧ (-2147483648 ≤ (6 * l1) + l8 ∧ (6 * l1) + l8 ≤ 2147483647) ∧ ((0 : Int) ≤ (6 * l1) + l8 ∧ (6 * l1) + l8 < 48) ∧ (-2147483648 ≤ (12 * (l5 - 1)) + (M 278 ((6 * l1) + l8)) ∧ (12 * (l5 - 1)) + (M 278 ((6 * l1) + l8)) ≤ 2147483647) ∧ ((0 : Int) ≤ (12 * (l5 - 1)) + (M 278 ((6 * l1) + l8)) ∧ (12 * (l5 - 1)) + (M 278 ((6 * l1) + l8)) < 84) ∧ (-2147483648 ≤ 36 * l1 ∧ 36 * l1 ≤ 2147483647) ∧ (-2147483648 ≤ 6 * l2 ∧ 6 * l2 ≤ 2147483647) ∧ (-2147483648 ≤ (36 * l1) + (6 * l2) ∧ (36 * l1) + (6 * l2) ≤ 2147483647) ∧ (-2147483648 ≤ ((36 * l1) + (6 * l2)) + l8 ∧ ((36 * l1) + (6 * l2)) + l8 ≤ 2147483647) ∧ ((0 : Int) ≤ ((36 * l1) + (6 * l2)) + l8 ∧ ((36 * l1) + (6 * l2)) + l8 < 288) ∧ (((M 281 (((36 * l1) + (6 * l2)) + l8)) < (M 284 ((12 * (l5 - 1)) + (M 278 ((6 * l1) + l8)))) → (-2147483648 ≤ l8 + 1 ∧ l8 + 1 ≤ 2147483647) ∧ AW mX9_boardedAt 62 [(2, 275), (0, l1), (0, l2), (9, 0), (9, 0), (0, l5), (0, l6), (0, l7), (0, l8 + 1)] M Q) ∧ (¬ ((M 281 (((36 * l1) + (6 * l2)) + l8)) < (M 284 ((12 * (l5 - 1)) + (M 278 ((6 * l1) + l8))))) → (-2147483648 ≤ l8 + 1 ∧ l8 + 1 ≤ 2147483647) ∧ AW mX9_boardedAt 62 [(2, 275), (0, l1), (0, l2), (9, 0), (9, 0), (0, l5), (0, l6), (0, l8), (0, l8 + 1)] M Q))))) : AW mX9_boardedAt 62 [(2, 275), (0, l1), (0, l2), (9, 0), (9, 0), (0, l5), (0, l6), (0, l7), (0, l8)] M Q := by
  refine a_iload (pc := 62) dX9_boardedAt_62 rfl ?_
  refine a_iload (pc := 64) dX9_boardedAt_64 rfl ?_
  refine a_icmp_ge (tgt := 115) (pc := 66) dX9_boardedAt_66 (by decide) (fun hc1 => ?_) (fun hc1 => ?_)
  · replace h := h.1 hc1
    refine a_iload (pc := 115) dX9_boardedAt_115 rfl ?_
    exact a_ireti (pc := 117) dX9_boardedAt_117 rfl rfl (Nat.le_of_ble_eq_true rfl) ⟨rfl, h⟩
  · replace h := h.2 hc1
    refine a_aload_n (pc := 69) dX9_boardedAt_69 (by decide) rfl ?_
    refine a_getR (y := 284) (pc := 70) dX9_boardedAt_70 fl_RX9_41 (by decide) s0_275 rfl rfl ?_
    refine a_bipush (pc := 73) dX9_boardedAt_73 (by decide) (by decide +kernel) ?_
    refine a_iload (pc := 75) dX9_boardedAt_75 rfl ?_
    refine a_iconst (pc := 77) dX9_boardedAt_77 (by decide) ?_
    have ho2 := h.1
    replace h := h.2
    refine a_isub (pc := 78) dX9_boardedAt_78 ho2 ?_
    have ho3 := h.1
    replace h := h.2
    refine a_imul (pc := 79) dX9_boardedAt_79 ho3 ?_
    refine a_aload_n (pc := 80) dX9_boardedAt_80 (by decide) rfl ?_
    refine a_iload_n (pc := 81) dX9_boardedAt_81 rfl ?_
    refine a_iload (pc := 82) dX9_boardedAt_82 rfl ?_
    refine p_inlV (Ex := _) (As := [(0, l1), (0, l8)]) (st := [(0, 12 * (l5 - 1)), (2, 284)]) (st1 := fun r => [(0, r), (0, 12 * (l5 - 1)), (2, 284)])  (pc := 84) dX9_boardedAt_84 ml_RX9_117 (by decide) s0_275 rfl (by decide) (Nat.le_of_ble_eq_true rfl) rfl (fun _ => rfl) (by decide) (by decide) (Nat.le_of_ble_eq_true rfl) rfl ?_
    refine a_aload_n (pc := 0) dX9_stopAt_0 (by decide) rfl ?_
    refine a_getR (y := 278) (pc := 1) dX9_stopAt_1 fl_RX9_16 (by decide) s0_275 rfl rfl ?_
    refine a_bipush (pc := 4) dX9_stopAt_4 (by decide) (by decide +kernel) ?_
    refine a_iload_n (pc := 6) dX9_stopAt_6 rfl ?_
    have ho4 := h.1
    replace h := h.2
    refine a_imul (pc := 7) dX9_stopAt_7 ho4 ?_
    refine a_iload_n (pc := 8) dX9_stopAt_8 rfl ?_
    have ho5 := h.1
    replace h := h.2
    refine a_iadd (pc := 9) dX9_stopAt_9 ho5 ?_
    have ho6 := h.1
    replace h := h.2
    refine a_iald (pc := 10) dX9_stopAt_10 (by decide) s0_278 ho6.1 ho6.2 ?_
    refine a_ireti (pc := 11) dX9_stopAt_11 rfl rfl (Nat.le_of_ble_eq_true rfl) ⟨rfl, ?_⟩
    have ho7 := h.1
    replace h := h.2
    refine a_iadd (pc := 87) dX9_boardedAt_87 ho7 ?_
    have ho8 := h.1
    replace h := h.2
    refine a_iald (pc := 88) dX9_boardedAt_88 (by decide) s0_284 ho8.1 ho8.2 ?_
    refine a_aload_n (pc := 89) dX9_boardedAt_89 (by decide) rfl ?_
    refine a_iload_n (pc := 90) dX9_boardedAt_90 rfl ?_
    refine a_iload_n (pc := 91) dX9_boardedAt_91 rfl ?_
    refine a_iload (pc := 92) dX9_boardedAt_92 rfl ?_
    refine p_inlV (Ex := _) (As := [(0, l1), (0, l2), (0, l8)]) (st := [(0, M 284 ((12 * (l5 - 1)) + (M 278 ((6 * l1) + l8))))]) (st1 := fun r => [(0, r), (0, M 284 ((12 * (l5 - 1)) + (M 278 ((6 * l1) + l8))))])  (pc := 94) dX9_boardedAt_94 ml_RX9_120 (by decide) s0_275 rfl (by decide) (Nat.le_of_ble_eq_true rfl) rfl (fun _ => rfl) (by decide) (by decide) (Nat.le_of_ble_eq_true rfl) rfl ?_
    refine a_aload_n (pc := 0) dX9_minuteAt_0 (by decide) rfl ?_
    refine a_getR (y := 281) (pc := 1) dX9_minuteAt_1 fl_RX9_25 (by decide) s0_275 rfl rfl ?_
    refine a_bipush (pc := 4) dX9_minuteAt_4 (by decide) (by decide +kernel) ?_
    refine a_iload_n (pc := 6) dX9_minuteAt_6 rfl ?_
    have ho9 := h.1
    replace h := h.2
    refine a_imul (pc := 7) dX9_minuteAt_7 ho9 ?_
    refine a_bipush (pc := 8) dX9_minuteAt_8 (by decide) (by decide +kernel) ?_
    refine a_iload_n (pc := 10) dX9_minuteAt_10 rfl ?_
    have ho10 := h.1
    replace h := h.2
    refine a_imul (pc := 11) dX9_minuteAt_11 ho10 ?_
    have ho11 := h.1
    replace h := h.2
    refine a_iadd (pc := 12) dX9_minuteAt_12 ho11 ?_
    refine a_iload_n (pc := 13) dX9_minuteAt_13 rfl ?_
    have ho12 := h.1
    replace h := h.2
    refine a_iadd (pc := 14) dX9_minuteAt_14 ho12 ?_
    have ho13 := h.1
    replace h := h.2
    refine a_iald (pc := 15) dX9_minuteAt_15 (by decide) s0_281 ho13.1 ho13.2 ?_
    refine a_ireti (pc := 16) dX9_minuteAt_16 rfl rfl (Nat.le_of_ble_eq_true rfl) ⟨rfl, ?_⟩
    refine a_icmp_gt (tgt := 105) (pc := 97) dX9_boardedAt_97 (by decide) (fun hc14 => ?_) (fun hc14 => ?_)
    · replace h := h.1 hc14
      refine a_iload (pc := 105) dX9_boardedAt_105 rfl ?_
      refine a_istore (ls1 := [(2, 275), (0, l1), (0, l2), (9, 0), (9, 0), (0, l5), (0, l6), (0, l7), (0, l8)]) (pc := 107) dX9_boardedAt_107 (by decide) (hp1 (t := 0) rfl (by decide)) rfl ?_
      have ho15 := h.1
      replace h := h.2
      refine a_iinc (ls1 := [(2, 275), (0, l1), (0, l2), (9, 0), (9, 0), (0, l5), (0, l6), (0, l7), (0, l8 + 1)]) (pc := 109) dX9_boardedAt_109 rfl (by decide) (hp1 (t := 0) rfl (by decide)) ho15 rfl ?_
      refine a_goto (tgt := 62) (pc := 112) dX9_boardedAt_112 (by decide) ?_
      exact h
    · replace h := h.2 hc14
      refine a_iload (pc := 100) dX9_boardedAt_100 rfl ?_
      refine a_goto (tgt := 107) (pc := 102) dX9_boardedAt_102 (by decide) ?_
      refine a_istore (ls1 := [(2, 275), (0, l1), (0, l2), (9, 0), (9, 0), (0, l5), (0, l6), (0, l8), (0, l8)]) (pc := 107) dX9_boardedAt_107 (by decide) (hp1 (t := 0) rfl (by decide)) rfl ?_
      have ho16 := h.1
      replace h := h.2
      refine a_iinc (ls1 := [(2, 275), (0, l1), (0, l2), (9, 0), (9, 0), (0, l5), (0, l6), (0, l8), (0, l8 + 1)]) (pc := 109) dX9_boardedAt_109 rfl (by decide) (hp1 (t := 0) rfl (by decide)) ho16 rfl ?_
      refine a_goto (tgt := 62) (pc := 112) dX9_boardedAt_112 (by decide) ?_
      exact h
theorem E_R_boardedAt {l1 l2 l3 l4 l5 : Int} {M : Mem} {Q : Int → Mem → Prop} (h : AW mX9_boardedAt 0 [(2, 275), (0, l1), (0, l2), (0, l3), (0, l4), (0, l5), (9, 0), (9, 0), (9, 0)] M Q) : Calls mX9_boardedAt [(2, 275), (0, l1), (0, l2), (0, l3), (0, l4), (0, l5)] S0 M Q := calls_of (by decide) (by decide) (Nat.le_of_ble_eq_true rfl) rfl h
set_option maxRecDepth 100000 in
set_option maxHeartbeats 4000000 in
theorem B_R_layTrip_0 {l1 l2 l3 : Int} {M : Mem} {Q : Int → Mem → Prop} (h : AW mX9_layTrip 6 [(2, 275), (0, l1), (0, l2), (0, l3), (0, 0), (0, 0), (9, 0), (9, 0)] M Q) : AW mX9_layTrip 0 [(2, 275), (0, l1), (0, l2), (0, l3), (9, 0), (9, 0), (9, 0), (9, 0)] M Q := by
  refine a_iconst (pc := 0) dX9_layTrip_0 (by decide) ?_
  refine a_istore (ls1 := [(2, 275), (0, l1), (0, l2), (0, l3), (0, 0), (9, 0), (9, 0), (9, 0)]) (pc := 1) dX9_layTrip_1 (by decide) (hp1 (t := 0) rfl (by decide)) rfl ?_
  refine a_iconst (pc := 3) dX9_layTrip_3 (by decide) ?_
  refine a_istore (ls1 := [(2, 275), (0, l1), (0, l2), (0, l3), (0, 0), (0, 0), (9, 0), (9, 0)]) (pc := 4) dX9_layTrip_4 (by decide) (hp1 (t := 0) rfl (by decide)) rfl ?_
  exact h
set_option maxRecDepth 100000 in
set_option maxHeartbeats 4000000 in
theorem B_R_layTrip_6 {l1 l2 l3 l4 l5 : Int} {M : Mem} {Q : Int → Mem → Prop} (h : ((0 : Int) ≤ l2 ∧ l2 < 8) ∧ (((M 277 l2) ≤ l5 → Q 0 M) ∧ (¬ ((M 277 l2) ≤ l5) → (-2147483648 ≤ 6 * l2 ∧ 6 * l2 ≤ 2147483647) ∧ (-2147483648 ≤ (6 * l2) + l5 ∧ (6 * l2) + l5 ≤ 2147483647) ∧ ((0 : Int) ≤ (6 * l2) + l5 ∧ (6 * l2) + l5 < 48) ∧ (-2147483648 ≤ 36 * l2 ∧ 36 * l2 ≤ 2147483647) ∧ (-2147483648 ≤ 6 * l3 ∧ 6 * l3 ≤ 2147483647) ∧ (-2147483648 ≤ (36 * l2) + (6 * l3) ∧ (36 * l2) + (6 * l3) ≤ 2147483647) ∧ (-2147483648 ≤ ((36 * l2) + (6 * l3)) + l5 ∧ ((36 * l2) + (6 * l3)) + l5 ≤ 2147483647) ∧ ((0 : Int) ≤ ((36 * l2) + (6 * l3)) + l5 ∧ ((36 * l2) + (6 * l3)) + l5 < 288) ∧ ((l4 = 0 → (((M 278 ((6 * l2) + l5)) = (M 275 10) → (-2147483648 ≤ l5 + 1 ∧ l5 + 1 ≤ 2147483647) ∧ AW mX9_layTrip 6 [(2, 275), (0, l1), (0, l2), (0, l3), (0, 0), (0, l5 + 1), (9, 0), (9, 0)] M Q) ∧ (¬ (M 278 ((6 * l2) + l5)) = (M 275 10) → (-2147483648 ≤ l1 - 1 ∧ l1 - 1 ≤ 2147483647) ∧ (-2147483648 ≤ 12 * (l1 - 1) ∧ 12 * (l1 - 1) ≤ 2147483647) ∧ (-2147483648 ≤ (12 * (l1 - 1)) + (M 278 ((6 * l2) + l5)) ∧ (12 * (l1 - 1)) + (M 278 ((6 * l2) + l5)) ≤ 2147483647) ∧ ((0 : Int) ≤ (12 * (l1 - 1)) + (M 278 ((6 * l2) + l5)) ∧ (12 * (l1 - 1)) + (M 278 ((6 * l2) + l5)) < 84) ∧ (((M 281 (((36 * l2) + (6 * l3)) + l5)) < (M 284 ((12 * (l1 - 1)) + (M 278 ((6 * l2) + l5)))) → (-2147483648 ≤ l5 + 1 ∧ l5 + 1 ≤ 2147483647) ∧ AW mX9_layTrip 6 [(2, 275), (0, l1), (0, l2), (0, l3), (0, 0), (0, l5 + 1), (9, 0), (9, 0)] M Q) ∧ (¬ ((M 281 (((36 * l2) + (6 * l3)) + l5)) < (M 284 ((12 * (l1 - 1)) + (M 278 ((6 * l2) + l5))))) → (-2147483648 ≤ l5 + 1 ∧ l5 + 1 ≤ 2147483647) ∧ AW mX9_layTrip 6 [(2, 275), (0, l1), (0, l2), (0, l3), (0, 1), (0, l5 + 1), (9, 0), (9, 0)] M Q))))) ∧ (¬ l4 = 0 → (((M 278 ((6 * l2) + l5)) = (M 275 10) → (-2147483648 ≤ l5 + 1 ∧ l5 + 1 ≤ 2147483647) ∧ AW mX9_layTrip 6 [(2, 275), (0, l1), (0, l2), (0, l3), (0, 1), (0, l5 + 1), (9, 0), (9, 0)] M Q) ∧ (¬ (M 278 ((6 * l2) + l5)) = (M 275 10) → (-2147483648 ≤ 12 * l1 ∧ 12 * l1 ≤ 2147483647) ∧ (-2147483648 ≤ (12 * l1) + (M 278 ((6 * l2) + l5)) ∧ (12 * l1) + (M 278 ((6 * l2) + l5)) ≤ 2147483647) ∧ ((0 : Int) ≤ (12 * l1) + (M 278 ((6 * l2) + l5)) ∧ (12 * l1) + (M 278 ((6 * l2) + l5)) < 84) ∧ (((M 283 ((12 * l1) + (M 278 ((6 * l2) + l5)))) ≤ (M 281 (((36 * l2) + (6 * l3)) + l5)) → (-2147483648 ≤ l5 + 1 ∧ l5 + 1 ≤ 2147483647) ∧ AW mX9_layTrip 6 [(2, 275), (0, l1), (0, l2), (0, l3), (0, 1), (0, l5 + 1), (9, 0), (9, 0)] M Q) ∧ (¬ ((M 283 ((12 * l1) + (M 278 ((6 * l2) + l5)))) ≤ (M 281 (((36 * l2) + (6 * l3)) + l5))) → (-2147483648 ≤ l5 + 1 ∧ l5 + 1 ≤ 2147483647) ∧ AW mX9_layTrip 6 [(2, 275), (0, l1), (0, l2), (0, l3), (0, 1), (0, l5 + 1), (9, 0), (9, 0)] (up2 M 283 ((12 * l1) + (M 278 ((6 * l2) + l5))) (M 281 (((36 * l2) + (6 * l3)) + l5))) Q))))))))) : AW mX9_layTrip 6 [(2, 275), (0, l1), (0, l2), (0, l3), (0, l4), (0, l5), (9, 0), (9, 0)] M Q := by
  refine a_iload (pc := 6) dX9_layTrip_6 rfl ?_
  refine a_aload_n (pc := 8) dX9_layTrip_8 (by decide) rfl ?_
  refine a_getR (y := 277) (pc := 9) dX9_layTrip_9 fl_RX9_13 (by decide) s0_275 rfl rfl ?_
  refine a_iload_n (pc := 12) dX9_layTrip_12 rfl ?_
  have ho1 := h.1
  replace h := h.2
  refine a_iald (pc := 13) dX9_layTrip_13 (by decide) s0_277 ho1.1 ho1.2 ?_
  refine a_icmp_ge (tgt := 127) (pc := 14) dX9_layTrip_14 (by decide) (fun hc2 => ?_) (fun hc2 => ?_)
  · replace h := h.1 hc2
    exact a_vret (pc := 127) dX9_layTrip_127 rfl rfl (Nat.le_of_ble_eq_true rfl) ⟨rfl, h⟩
  · replace h := h.2 hc2
    refine a_aload_n (pc := 17) dX9_layTrip_17 (by decide) rfl ?_
    refine a_iload_n (pc := 18) dX9_layTrip_18 rfl ?_
    refine a_iload (pc := 19) dX9_layTrip_19 rfl ?_
    refine p_inlV (Ex := _) (As := [(0, l2), (0, l5)]) (st := []) (st1 := fun r => [(0, r)])  (pc := 21) dX9_layTrip_21 ml_RX9_117 (by decide) s0_275 rfl (by decide) (Nat.le_of_ble_eq_true rfl) rfl (fun _ => rfl) (by decide) (by decide) (Nat.le_of_ble_eq_true rfl) rfl ?_
    refine a_aload_n (pc := 0) dX9_stopAt_0 (by decide) rfl ?_
    refine a_getR (y := 278) (pc := 1) dX9_stopAt_1 fl_RX9_16 (by decide) s0_275 rfl rfl ?_
    refine a_bipush (pc := 4) dX9_stopAt_4 (by decide) (by decide +kernel) ?_
    refine a_iload_n (pc := 6) dX9_stopAt_6 rfl ?_
    have ho3 := h.1
    replace h := h.2
    refine a_imul (pc := 7) dX9_stopAt_7 ho3 ?_
    refine a_iload_n (pc := 8) dX9_stopAt_8 rfl ?_
    have ho4 := h.1
    replace h := h.2
    refine a_iadd (pc := 9) dX9_stopAt_9 ho4 ?_
    have ho5 := h.1
    replace h := h.2
    refine a_iald (pc := 10) dX9_stopAt_10 (by decide) s0_278 ho5.1 ho5.2 ?_
    refine a_ireti (pc := 11) dX9_stopAt_11 rfl rfl (Nat.le_of_ble_eq_true rfl) ⟨rfl, ?_⟩
    refine a_istore (ls1 := [(2, 275), (0, l1), (0, l2), (0, l3), (0, l4), (0, l5), (0, M 278 ((6 * l2) + l5)), (9, 0)]) (pc := 24) dX9_layTrip_24 (by decide) (hp1 (t := 0) rfl (by decide)) rfl ?_
    refine a_aload_n (pc := 26) dX9_layTrip_26 (by decide) rfl ?_
    refine a_iload_n (pc := 27) dX9_layTrip_27 rfl ?_
    refine a_iload_n (pc := 28) dX9_layTrip_28 rfl ?_
    refine a_iload (pc := 29) dX9_layTrip_29 rfl ?_
    refine p_inlV (Ex := _) (As := [(0, l2), (0, l3), (0, l5)]) (st := []) (st1 := fun r => [(0, r)])  (pc := 31) dX9_layTrip_31 ml_RX9_120 (by decide) s0_275 rfl (by decide) (Nat.le_of_ble_eq_true rfl) rfl (fun _ => rfl) (by decide) (by decide) (Nat.le_of_ble_eq_true rfl) rfl ?_
    refine a_aload_n (pc := 0) dX9_minuteAt_0 (by decide) rfl ?_
    refine a_getR (y := 281) (pc := 1) dX9_minuteAt_1 fl_RX9_25 (by decide) s0_275 rfl rfl ?_
    refine a_bipush (pc := 4) dX9_minuteAt_4 (by decide) (by decide +kernel) ?_
    refine a_iload_n (pc := 6) dX9_minuteAt_6 rfl ?_
    have ho6 := h.1
    replace h := h.2
    refine a_imul (pc := 7) dX9_minuteAt_7 ho6 ?_
    refine a_bipush (pc := 8) dX9_minuteAt_8 (by decide) (by decide +kernel) ?_
    refine a_iload_n (pc := 10) dX9_minuteAt_10 rfl ?_
    have ho7 := h.1
    replace h := h.2
    refine a_imul (pc := 11) dX9_minuteAt_11 ho7 ?_
    have ho8 := h.1
    replace h := h.2
    refine a_iadd (pc := 12) dX9_minuteAt_12 ho8 ?_
    refine a_iload_n (pc := 13) dX9_minuteAt_13 rfl ?_
    have ho9 := h.1
    replace h := h.2
    refine a_iadd (pc := 14) dX9_minuteAt_14 ho9 ?_
    have ho10 := h.1
    replace h := h.2
    refine a_iald (pc := 15) dX9_minuteAt_15 (by decide) s0_281 ho10.1 ho10.2 ?_
    refine a_ireti (pc := 16) dX9_minuteAt_16 rfl rfl (Nat.le_of_ble_eq_true rfl) ⟨rfl, ?_⟩
    refine a_istore (ls1 := [(2, 275), (0, l1), (0, l2), (0, l3), (0, l4), (0, l5), (0, M 278 ((6 * l2) + l5)), (0, M 281 (((36 * l2) + (6 * l3)) + l5))]) (pc := 34) dX9_layTrip_34 (by decide) (hp1 (t := 0) rfl (by decide)) rfl ?_
    refine a_iload (pc := 36) dX9_layTrip_36 rfl ?_
    refine a_if_eq (tgt := 81) (pc := 38) dX9_layTrip_38 (by decide) (fun hc11 => ?_) (fun hc11 => ?_)
    · replace h := h.1 hc11
      refine a_iload (pc := 81) dX9_layTrip_81 rfl ?_
      refine a_if_ne (tgt := 114) (pc := 83) dX9_layTrip_83 (by decide) (fun hc => absurd hc11 hc) (fun _ => ?_)
      refine a_iload (pc := 86) dX9_layTrip_86 rfl ?_
      refine a_aload_n (pc := 88) dX9_layTrip_88 (by decide) rfl ?_
      refine a_getI (y := 10) (pc := 89) dX9_layTrip_89 fl_RX9_35 (by decide) s0_275 (Or.inl rfl) rfl ?_
      refine a_icmp_eq (tgt := 118) (pc := 92) dX9_layTrip_92 (by decide) (fun hc12 => ?_) (fun hc12 => ?_)
      · replace h := h.1 hc12
        refine a_iconst (pc := 118) dX9_layTrip_118 (by decide) ?_
        refine a_istore (ls1 := [(2, 275), (0, l1), (0, l2), (0, l3), (0, 0), (0, l5), (0, M 278 ((6 * l2) + l5)), (0, M 281 (((36 * l2) + (6 * l3)) + l5))]) (pc := 119) dX9_layTrip_119 (by decide) (hp1 (t := 0) rfl (by decide)) rfl ?_
        have ho13 := h.1
        replace h := h.2
        refine a_iinc (ls1 := [(2, 275), (0, l1), (0, l2), (0, l3), (0, 0), (0, l5 + 1), (0, M 278 ((6 * l2) + l5)), (0, M 281 (((36 * l2) + (6 * l3)) + l5))]) (pc := 121) dX9_layTrip_121 rfl (by decide) (hp1 (t := 0) rfl (by decide)) ho13 rfl ?_
        refine a_goto (tgt := 6) (pc := 124) dX9_layTrip_124 (by decide) ?_
        exact a_msk [true, true, true, true, true, true, false, false] rfl h
      · replace h := h.2 hc12
        refine a_aload_n (pc := 95) dX9_layTrip_95 (by decide) rfl ?_
        refine a_getR (y := 284) (pc := 96) dX9_layTrip_96 fl_RX9_41 (by decide) s0_275 rfl rfl ?_
        refine a_bipush (pc := 99) dX9_layTrip_99 (by decide) (by decide +kernel) ?_
        refine a_iload_n (pc := 101) dX9_layTrip_101 rfl ?_
        refine a_iconst (pc := 102) dX9_layTrip_102 (by decide) ?_
        have ho14 := h.1
        replace h := h.2
        refine a_isub (pc := 103) dX9_layTrip_103 ho14 ?_
        have ho15 := h.1
        replace h := h.2
        refine a_imul (pc := 104) dX9_layTrip_104 ho15 ?_
        refine a_iload (pc := 105) dX9_layTrip_105 rfl ?_
        have ho16 := h.1
        replace h := h.2
        refine a_iadd (pc := 107) dX9_layTrip_107 ho16 ?_
        have ho17 := h.1
        replace h := h.2
        refine a_iald (pc := 108) dX9_layTrip_108 (by decide) s0_284 ho17.1 ho17.2 ?_
        refine a_iload (pc := 109) dX9_layTrip_109 rfl ?_
        refine a_icmp_gt (tgt := 118) (pc := 111) dX9_layTrip_111 (by decide) (fun hc18 => ?_) (fun hc18 => ?_)
        · replace h := h.1 hc18
          refine a_iconst (pc := 118) dX9_layTrip_118 (by decide) ?_
          refine a_istore (ls1 := [(2, 275), (0, l1), (0, l2), (0, l3), (0, 0), (0, l5), (0, M 278 ((6 * l2) + l5)), (0, M 281 (((36 * l2) + (6 * l3)) + l5))]) (pc := 119) dX9_layTrip_119 (by decide) (hp1 (t := 0) rfl (by decide)) rfl ?_
          have ho19 := h.1
          replace h := h.2
          refine a_iinc (ls1 := [(2, 275), (0, l1), (0, l2), (0, l3), (0, 0), (0, l5 + 1), (0, M 278 ((6 * l2) + l5)), (0, M 281 (((36 * l2) + (6 * l3)) + l5))]) (pc := 121) dX9_layTrip_121 rfl (by decide) (hp1 (t := 0) rfl (by decide)) ho19 rfl ?_
          refine a_goto (tgt := 6) (pc := 124) dX9_layTrip_124 (by decide) ?_
          exact a_msk [true, true, true, true, true, true, false, false] rfl h
        · replace h := h.2 hc18
          refine a_iconst (pc := 114) dX9_layTrip_114 (by decide) ?_
          refine a_goto (tgt := 119) (pc := 115) dX9_layTrip_115 (by decide) ?_
          refine a_istore (ls1 := [(2, 275), (0, l1), (0, l2), (0, l3), (0, 1), (0, l5), (0, M 278 ((6 * l2) + l5)), (0, M 281 (((36 * l2) + (6 * l3)) + l5))]) (pc := 119) dX9_layTrip_119 (by decide) (hp1 (t := 0) rfl (by decide)) rfl ?_
          have ho20 := h.1
          replace h := h.2
          refine a_iinc (ls1 := [(2, 275), (0, l1), (0, l2), (0, l3), (0, 1), (0, l5 + 1), (0, M 278 ((6 * l2) + l5)), (0, M 281 (((36 * l2) + (6 * l3)) + l5))]) (pc := 121) dX9_layTrip_121 rfl (by decide) (hp1 (t := 0) rfl (by decide)) ho20 rfl ?_
          refine a_goto (tgt := 6) (pc := 124) dX9_layTrip_124 (by decide) ?_
          exact a_msk [true, true, true, true, true, true, false, false] rfl h
    · replace h := h.2 hc11
      refine a_iload (pc := 41) dX9_layTrip_41 rfl ?_
      refine a_aload_n (pc := 43) dX9_layTrip_43 (by decide) rfl ?_
      refine a_getI (y := 10) (pc := 44) dX9_layTrip_44 fl_RX9_35 (by decide) s0_275 (Or.inl rfl) rfl ?_
      refine a_icmp_eq (tgt := 81) (pc := 47) dX9_layTrip_47 (by decide) (fun hc21 => ?_) (fun hc21 => ?_)
      · replace h := h.1 hc21
        refine a_iload (pc := 81) dX9_layTrip_81 rfl ?_
        refine a_if_ne (tgt := 114) (pc := 83) dX9_layTrip_83 (by decide) (fun _ => ?_) (fun hc => absurd hc hc11)
        refine a_iconst (pc := 114) dX9_layTrip_114 (by decide) ?_
        refine a_goto (tgt := 119) (pc := 115) dX9_layTrip_115 (by decide) ?_
        refine a_istore (ls1 := [(2, 275), (0, l1), (0, l2), (0, l3), (0, 1), (0, l5), (0, M 278 ((6 * l2) + l5)), (0, M 281 (((36 * l2) + (6 * l3)) + l5))]) (pc := 119) dX9_layTrip_119 (by decide) (hp1 (t := 0) rfl (by decide)) rfl ?_
        have ho22 := h.1
        replace h := h.2
        refine a_iinc (ls1 := [(2, 275), (0, l1), (0, l2), (0, l3), (0, 1), (0, l5 + 1), (0, M 278 ((6 * l2) + l5)), (0, M 281 (((36 * l2) + (6 * l3)) + l5))]) (pc := 121) dX9_layTrip_121 rfl (by decide) (hp1 (t := 0) rfl (by decide)) ho22 rfl ?_
        refine a_goto (tgt := 6) (pc := 124) dX9_layTrip_124 (by decide) ?_
        exact a_msk [true, true, true, true, true, true, false, false] rfl h
      · replace h := h.2 hc21
        refine a_iload (pc := 50) dX9_layTrip_50 rfl ?_
        refine a_aload_n (pc := 52) dX9_layTrip_52 (by decide) rfl ?_
        refine a_getR (y := 283) (pc := 53) dX9_layTrip_53 fl_RX9_38 (by decide) s0_275 rfl rfl ?_
        refine a_bipush (pc := 56) dX9_layTrip_56 (by decide) (by decide +kernel) ?_
        refine a_iload_n (pc := 58) dX9_layTrip_58 rfl ?_
        have ho23 := h.1
        replace h := h.2
        refine a_imul (pc := 59) dX9_layTrip_59 ho23 ?_
        refine a_iload (pc := 60) dX9_layTrip_60 rfl ?_
        have ho24 := h.1
        replace h := h.2
        refine a_iadd (pc := 62) dX9_layTrip_62 ho24 ?_
        have ho25 := h.1
        replace h := h.2
        refine a_iald (pc := 63) dX9_layTrip_63 (by decide) s0_283 ho25.1 ho25.2 ?_
        refine a_icmp_ge (tgt := 81) (pc := 64) dX9_layTrip_64 (by decide) (fun hc26 => ?_) (fun hc26 => ?_)
        · replace h := h.1 hc26
          refine a_iload (pc := 81) dX9_layTrip_81 rfl ?_
          refine a_if_ne (tgt := 114) (pc := 83) dX9_layTrip_83 (by decide) (fun _ => ?_) (fun hc => absurd hc hc11)
          refine a_iconst (pc := 114) dX9_layTrip_114 (by decide) ?_
          refine a_goto (tgt := 119) (pc := 115) dX9_layTrip_115 (by decide) ?_
          refine a_istore (ls1 := [(2, 275), (0, l1), (0, l2), (0, l3), (0, 1), (0, l5), (0, M 278 ((6 * l2) + l5)), (0, M 281 (((36 * l2) + (6 * l3)) + l5))]) (pc := 119) dX9_layTrip_119 (by decide) (hp1 (t := 0) rfl (by decide)) rfl ?_
          have ho27 := h.1
          replace h := h.2
          refine a_iinc (ls1 := [(2, 275), (0, l1), (0, l2), (0, l3), (0, 1), (0, l5 + 1), (0, M 278 ((6 * l2) + l5)), (0, M 281 (((36 * l2) + (6 * l3)) + l5))]) (pc := 121) dX9_layTrip_121 rfl (by decide) (hp1 (t := 0) rfl (by decide)) ho27 rfl ?_
          refine a_goto (tgt := 6) (pc := 124) dX9_layTrip_124 (by decide) ?_
          exact a_msk [true, true, true, true, true, true, false, false] rfl h
        · replace h := h.2 hc26
          refine a_aload_n (pc := 67) dX9_layTrip_67 (by decide) rfl ?_
          refine a_getR (y := 283) (pc := 68) dX9_layTrip_68 fl_RX9_38 (by decide) s0_275 rfl rfl ?_
          refine a_bipush (pc := 71) dX9_layTrip_71 (by decide) (by decide +kernel) ?_
          refine a_iload_n (pc := 73) dX9_layTrip_73 rfl ?_
          refine a_imul (pc := 74) dX9_layTrip_74 ho23 ?_
          refine a_iload (pc := 75) dX9_layTrip_75 rfl ?_
          refine a_iadd (pc := 77) dX9_layTrip_77 ho24 ?_
          refine a_iload (pc := 78) dX9_layTrip_78 rfl ?_
          refine a_iast (pc := 80) dX9_layTrip_80 (by decide) s0_283 ho25.1 ho25.2 ?_
          refine a_iload (pc := 81) dX9_layTrip_81 rfl ?_
          refine a_if_ne (tgt := 114) (pc := 83) dX9_layTrip_83 (by decide) (fun _ => ?_) (fun hc => absurd hc hc11)
          refine a_iconst (pc := 114) dX9_layTrip_114 (by decide) ?_
          refine a_goto (tgt := 119) (pc := 115) dX9_layTrip_115 (by decide) ?_
          refine a_istore (ls1 := [(2, 275), (0, l1), (0, l2), (0, l3), (0, 1), (0, l5), (0, M 278 ((6 * l2) + l5)), (0, M 281 (((36 * l2) + (6 * l3)) + l5))]) (pc := 119) dX9_layTrip_119 (by decide) (hp1 (t := 0) rfl (by decide)) rfl ?_
          have ho28 := h.1
          replace h := h.2
          refine a_iinc (ls1 := [(2, 275), (0, l1), (0, l2), (0, l3), (0, 1), (0, l5 + 1), (0, M 278 ((6 * l2) + l5)), (0, M 281 (((36 * l2) + (6 * l3)) + l5))]) (pc := 121) dX9_layTrip_121 rfl (by decide) (hp1 (t := 0) rfl (by decide)) ho28 rfl ?_
          refine a_goto (tgt := 6) (pc := 124) dX9_layTrip_124 (by decide) ?_
          exact a_msk [true, true, true, true, true, true, false, false] rfl h
theorem E_R_layTrip {l1 l2 l3 : Int} {M : Mem} {Q : Int → Mem → Prop} (h : AW mX9_layTrip 0 [(2, 275), (0, l1), (0, l2), (0, l3), (9, 0), (9, 0), (9, 0), (9, 0)] M Q) : Calls mX9_layTrip [(2, 275), (0, l1), (0, l2), (0, l3)] S0 M Q := calls_of (by decide) (by decide) (Nat.le_of_ble_eq_true rfl) rfl h
set_option maxRecDepth 100000 in
set_option maxHeartbeats 4000000 in
theorem B_R_putRide_0 {l1 l2 : Int} {M : Mem} {Q : Int → Mem → Prop} (h : ((0 : Int) ≤ M 275 14 ∧ M 275 14 < 16) ∧ (-2147483648 ≤ 6 * (M 275 22) ∧ 6 * (M 275 22) ≤ 2147483647) ∧ (-2147483648 ≤ (6 * (M 275 22)) + (M 275 24) ∧ (6 * (M 275 22)) + (M 275 24) ≤ 2147483647) ∧ ((0 : Int) ≤ (6 * (M 275 22)) + (M 275 24) ∧ (6 * (M 275 22)) + (M 275 24) < 48) ∧ (-2147483648 ≤ 36 * (M 275 22) ∧ 36 * (M 275 22) ≤ 2147483647) ∧ (-2147483648 ≤ 6 * (M 275 23) ∧ 6 * (M 275 23) ≤ 2147483647) ∧ (-2147483648 ≤ (36 * (M 275 22)) + (6 * (M 275 23)) ∧ (36 * (M 275 22)) + (6 * (M 275 23)) ≤ 2147483647) ∧ (-2147483648 ≤ ((36 * (M 275 22)) + (6 * (M 275 23))) + (M 275 24) ∧ ((36 * (M 275 22)) + (6 * (M 275 23))) + (M 275 24) ≤ 2147483647) ∧ ((0 : Int) ≤ ((36 * (M 275 22)) + (6 * (M 275 23))) + (M 275 24) ∧ ((36 * (M 275 22)) + (6 * (M 275 23))) + (M 275 24) < 288) ∧ AW mX9_putRide 85 [(2, 275), (0, l1), (9, 0), (0, M 275 14), (0, M 275 22), (0, M 275 24)] (up2 (up2 (up2 (up2 (up2 (up2 M 285 (M 275 14) (M 275 22)) 286 (M 275 14) (M 275 23)) 287 (M 275 14) (M 278 ((6 * (M 275 22)) + (M 275 24)))) 288 (M 275 14) l1) 289 (M 275 14) (M 281 (((36 * (M 275 22)) + (6 * (M 275 23))) + (M 275 24)))) 290 (M 275 14) l2) Q) : AW mX9_putRide 0 [(2, 275), (0, l1), (0, l2), (9, 0), (9, 0), (9, 0)] M Q := by
  refine a_aload_n (pc := 0) dX9_putRide_0 (by decide) rfl ?_
  refine a_getI (y := 14) (pc := 1) dX9_putRide_1 fl_RX9_155 (by decide) s0_275 (Or.inl rfl) rfl ?_
  refine a_istore_n (ls1 := [(2, 275), (0, l1), (0, l2), (0, M 275 14), (9, 0), (9, 0)]) (pc := 4) dX9_putRide_4 (by decide) (hp1 (t := 0) rfl (by decide)) rfl ?_
  refine a_aload_n (pc := 5) dX9_putRide_5 (by decide) rfl ?_
  refine a_getI (y := 22) (pc := 6) dX9_putRide_6 fl_RX9_146 (by decide) s0_275 (Or.inl rfl) rfl ?_
  refine a_istore (ls1 := [(2, 275), (0, l1), (0, l2), (0, M 275 14), (0, M 275 22), (9, 0)]) (pc := 9) dX9_putRide_9 (by decide) (hp1 (t := 0) rfl (by decide)) rfl ?_
  refine a_aload_n (pc := 11) dX9_putRide_11 (by decide) rfl ?_
  refine a_getR (y := 285) (pc := 12) dX9_putRide_12 fl_RX9_44 (by decide) s0_275 rfl rfl ?_
  refine a_iload_n (pc := 15) dX9_putRide_15 rfl ?_
  refine a_iload (pc := 16) dX9_putRide_16 rfl ?_
  have ho1 := h.1
  replace h := h.2
  refine a_iast (pc := 18) dX9_putRide_18 (by decide) s0_285 ho1.1 ho1.2 ?_
  refine a_aload_n (pc := 19) dX9_putRide_19 (by decide) rfl ?_
  refine a_getR (y := 286) (pc := 20) dX9_putRide_20 fl_RX9_47 (by decide) s0_275 rfl rfl ?_
  refine a_iload_n (pc := 23) dX9_putRide_23 rfl ?_
  refine a_aload_n (pc := 24) dX9_putRide_24 (by decide) rfl ?_
  refine a_getI (y := 23) (pc := 25) dX9_putRide_25 fl_RX9_149 (by decide) s0_275 (Or.inl rfl) rfl ?_
  refine a_eq (y := M 275 23) rfl ?_
  refine a_iast (pc := 28) dX9_putRide_28 (by decide) s0_286 ho1.1 ho1.2 ?_
  refine a_aload_n (pc := 29) dX9_putRide_29 (by decide) rfl ?_
  refine a_getR (y := 287) (pc := 30) dX9_putRide_30 fl_RX9_50 (by decide) s0_275 rfl rfl ?_
  refine a_iload_n (pc := 33) dX9_putRide_33 rfl ?_
  refine a_aload_n (pc := 34) dX9_putRide_34 (by decide) rfl ?_
  refine a_iload (pc := 35) dX9_putRide_35 rfl ?_
  refine a_aload_n (pc := 37) dX9_putRide_37 (by decide) rfl ?_
  refine a_getI (y := 24) (pc := 38) dX9_putRide_38 fl_RX9_152 (by decide) s0_275 (Or.inl rfl) rfl ?_
  refine a_eq (y := M 275 24) rfl ?_
  refine p_inlV (Ex := _) (As := [(0, M 275 22), (0, M 275 24)]) (st := [(0, M 275 14), (2, 287)]) (st1 := fun r => [(0, r), (0, M 275 14), (2, 287)])  (pc := 41) dX9_putRide_41 ml_RX9_117 (by decide) s0_275 rfl (by decide) (Nat.le_of_ble_eq_true rfl) rfl (fun _ => rfl) (by decide) (by decide) (Nat.le_of_ble_eq_true rfl) rfl ?_
  refine a_aload_n (pc := 0) dX9_stopAt_0 (by decide) rfl ?_
  refine a_getR (y := 278) (pc := 1) dX9_stopAt_1 fl_RX9_16 (by decide) s0_275 rfl rfl ?_
  refine a_bipush (pc := 4) dX9_stopAt_4 (by decide) (by decide +kernel) ?_
  refine a_iload_n (pc := 6) dX9_stopAt_6 rfl ?_
  have ho2 := h.1
  replace h := h.2
  refine a_imul (pc := 7) dX9_stopAt_7 ho2 ?_
  refine a_iload_n (pc := 8) dX9_stopAt_8 rfl ?_
  have ho3 := h.1
  replace h := h.2
  refine a_iadd (pc := 9) dX9_stopAt_9 ho3 ?_
  have ho4 := h.1
  replace h := h.2
  refine a_iald (pc := 10) dX9_stopAt_10 (by decide) s0_278 ho4.1 ho4.2 ?_
  refine a_eq (y := M 278 ((6 * (M 275 22)) + (M 275 24))) rfl ?_
  refine a_ireti (pc := 11) dX9_stopAt_11 rfl rfl (Nat.le_of_ble_eq_true rfl) ⟨rfl, ?_⟩
  refine a_iast (pc := 44) dX9_putRide_44 (by decide) s0_287 ho1.1 ho1.2 ?_
  refine a_aload_n (pc := 45) dX9_putRide_45 (by decide) rfl ?_
  refine a_getR (y := 288) (pc := 46) dX9_putRide_46 fl_RX9_53 (by decide) s0_275 rfl rfl ?_
  refine a_iload_n (pc := 49) dX9_putRide_49 rfl ?_
  refine a_iload_n (pc := 50) dX9_putRide_50 rfl ?_
  refine a_iast (pc := 51) dX9_putRide_51 (by decide) s0_288 ho1.1 ho1.2 ?_
  refine a_aload_n (pc := 52) dX9_putRide_52 (by decide) rfl ?_
  refine a_getR (y := 289) (pc := 53) dX9_putRide_53 fl_RX9_56 (by decide) s0_275 rfl rfl ?_
  refine a_iload_n (pc := 56) dX9_putRide_56 rfl ?_
  refine a_aload_n (pc := 57) dX9_putRide_57 (by decide) rfl ?_
  refine a_iload (pc := 58) dX9_putRide_58 rfl ?_
  refine a_aload_n (pc := 60) dX9_putRide_60 (by decide) rfl ?_
  refine a_getI (y := 23) (pc := 61) dX9_putRide_61 fl_RX9_149 (by decide) s0_275 (Or.inl rfl) rfl ?_
  refine a_eq (y := M 275 23) rfl ?_
  refine a_aload_n (pc := 64) dX9_putRide_64 (by decide) rfl ?_
  refine a_getI (y := 24) (pc := 65) dX9_putRide_65 fl_RX9_152 (by decide) s0_275 (Or.inl rfl) rfl ?_
  refine a_eq (y := M 275 24) rfl ?_
  refine p_inlV (Ex := _) (As := [(0, M 275 22), (0, M 275 23), (0, M 275 24)]) (st := [(0, M 275 14), (2, 289)]) (st1 := fun r => [(0, r), (0, M 275 14), (2, 289)])  (pc := 68) dX9_putRide_68 ml_RX9_120 (by decide) s0_275 rfl (by decide) (Nat.le_of_ble_eq_true rfl) rfl (fun _ => rfl) (by decide) (by decide) (Nat.le_of_ble_eq_true rfl) rfl ?_
  refine a_aload_n (pc := 0) dX9_minuteAt_0 (by decide) rfl ?_
  refine a_getR (y := 281) (pc := 1) dX9_minuteAt_1 fl_RX9_25 (by decide) s0_275 rfl rfl ?_
  refine a_bipush (pc := 4) dX9_minuteAt_4 (by decide) (by decide +kernel) ?_
  refine a_iload_n (pc := 6) dX9_minuteAt_6 rfl ?_
  have ho5 := h.1
  replace h := h.2
  refine a_imul (pc := 7) dX9_minuteAt_7 ho5 ?_
  refine a_bipush (pc := 8) dX9_minuteAt_8 (by decide) (by decide +kernel) ?_
  refine a_iload_n (pc := 10) dX9_minuteAt_10 rfl ?_
  have ho6 := h.1
  replace h := h.2
  refine a_imul (pc := 11) dX9_minuteAt_11 ho6 ?_
  have ho7 := h.1
  replace h := h.2
  refine a_iadd (pc := 12) dX9_minuteAt_12 ho7 ?_
  refine a_iload_n (pc := 13) dX9_minuteAt_13 rfl ?_
  have ho8 := h.1
  replace h := h.2
  refine a_iadd (pc := 14) dX9_minuteAt_14 ho8 ?_
  have ho9 := h.1
  replace h := h.2
  refine a_iald (pc := 15) dX9_minuteAt_15 (by decide) s0_281 ho9.1 ho9.2 ?_
  refine a_eq (y := M 281 (((36 * (M 275 22)) + (6 * (M 275 23))) + (M 275 24))) rfl ?_
  refine a_ireti (pc := 16) dX9_minuteAt_16 rfl rfl (Nat.le_of_ble_eq_true rfl) ⟨rfl, ?_⟩
  refine a_iast (pc := 71) dX9_putRide_71 (by decide) s0_289 ho1.1 ho1.2 ?_
  refine a_aload_n (pc := 72) dX9_putRide_72 (by decide) rfl ?_
  refine a_getR (y := 290) (pc := 73) dX9_putRide_73 fl_RX9_59 (by decide) s0_275 rfl rfl ?_
  refine a_iload_n (pc := 76) dX9_putRide_76 rfl ?_
  refine a_iload_n (pc := 77) dX9_putRide_77 rfl ?_
  refine a_iast (pc := 78) dX9_putRide_78 (by decide) s0_290 ho1.1 ho1.2 ?_
  refine a_aload_n (pc := 79) dX9_putRide_79 (by decide) rfl ?_
  refine a_getI (y := 24) (pc := 80) dX9_putRide_80 fl_RX9_152 (by decide) s0_275 (Or.inl rfl) rfl ?_
  refine a_eq (y := M 275 24) rfl ?_
  refine a_istore (ls1 := [(2, 275), (0, l1), (0, l2), (0, M 275 14), (0, M 275 22), (0, M 275 24)]) (pc := 83) dX9_putRide_83 (by decide) (hp1 (t := 0) rfl (by decide)) rfl ?_
  exact a_msk [true, true, false, true, true, true] rfl h
set_option maxRecDepth 100000 in
set_option maxHeartbeats 4000000 in
theorem B_R_putRide_85 {l1 l3 l4 l5 : Int} {M : Mem} {Q : Int → Mem → Prop} (h : (-2147483648 ≤ 6 * l4 ∧ 6 * l4 ≤ 2147483647) ∧ (-2147483648 ≤ (6 * l4) + l5 ∧ (6 * l4) + l5 ≤ 2147483647) ∧ ((0 : Int) ≤ (6 * l4) + l5 ∧ (6 * l4) + l5 < 48) ∧ (((M 278 ((6 * l4) + l5)) = l1 → (-2147483648 ≤ l5 - (M 275 24) ∧ l5 - (M 275 24) ≤ 2147483647) ∧ ((0 : Int) ≤ l3 ∧ l3 < 16) ∧ (-2147483648 ≤ (M 275 14) + 1 ∧ (M 275 14) + 1 ≤ 2147483647) ∧ Q 0 (up2 (up2 M 291 l3 (l5 - (M 275 24))) 275 14 ((M 275 14) + 1))) ∧ (¬ (M 278 ((6 * l4) + l5)) = l1 → (-2147483648 ≤ l5 + 1 ∧ l5 + 1 ≤ 2147483647) ∧ AW mX9_putRide 85 [(2, 275), (0, l1), (9, 0), (0, l3), (0, l4), (0, l5 + 1)] M Q))) : AW mX9_putRide 85 [(2, 275), (0, l1), (9, 0), (0, l3), (0, l4), (0, l5)] M Q := by
  refine a_aload_n (pc := 85) dX9_putRide_85 (by decide) rfl ?_
  refine a_iload (pc := 86) dX9_putRide_86 rfl ?_
  refine a_iload (pc := 88) dX9_putRide_88 rfl ?_
  refine p_inlV (Ex := _) (As := [(0, l4), (0, l5)]) (st := []) (st1 := fun r => [(0, r)])  (pc := 90) dX9_putRide_90 ml_RX9_117 (by decide) s0_275 rfl (by decide) (Nat.le_of_ble_eq_true rfl) rfl (fun _ => rfl) (by decide) (by decide) (Nat.le_of_ble_eq_true rfl) rfl ?_
  refine a_aload_n (pc := 0) dX9_stopAt_0 (by decide) rfl ?_
  refine a_getR (y := 278) (pc := 1) dX9_stopAt_1 fl_RX9_16 (by decide) s0_275 rfl rfl ?_
  refine a_bipush (pc := 4) dX9_stopAt_4 (by decide) (by decide +kernel) ?_
  refine a_iload_n (pc := 6) dX9_stopAt_6 rfl ?_
  have ho1 := h.1
  replace h := h.2
  refine a_imul (pc := 7) dX9_stopAt_7 ho1 ?_
  refine a_iload_n (pc := 8) dX9_stopAt_8 rfl ?_
  have ho2 := h.1
  replace h := h.2
  refine a_iadd (pc := 9) dX9_stopAt_9 ho2 ?_
  have ho3 := h.1
  replace h := h.2
  refine a_iald (pc := 10) dX9_stopAt_10 (by decide) s0_278 ho3.1 ho3.2 ?_
  refine a_ireti (pc := 11) dX9_stopAt_11 rfl rfl (Nat.le_of_ble_eq_true rfl) ⟨rfl, ?_⟩
  refine a_iload_n (pc := 93) dX9_putRide_93 rfl ?_
  refine a_icmp_eq (tgt := 103) (pc := 94) dX9_putRide_94 (by decide) (fun hc4 => ?_) (fun hc4 => ?_)
  · replace h := h.1 hc4
    refine a_aload_n (pc := 103) dX9_putRide_103 (by decide) rfl ?_
    refine a_getR (y := 291) (pc := 104) dX9_putRide_104 fl_RX9_62 (by decide) s0_275 rfl rfl ?_
    refine a_iload_n (pc := 107) dX9_putRide_107 rfl ?_
    refine a_iload (pc := 108) dX9_putRide_108 rfl ?_
    refine a_aload_n (pc := 110) dX9_putRide_110 (by decide) rfl ?_
    refine a_getI (y := 24) (pc := 111) dX9_putRide_111 fl_RX9_152 (by decide) s0_275 (Or.inl rfl) rfl ?_
    have ho5 := h.1
    replace h := h.2
    refine a_isub (pc := 114) dX9_putRide_114 ho5 ?_
    have ho6 := h.1
    replace h := h.2
    refine a_iast (pc := 115) dX9_putRide_115 (by decide) s0_291 ho6.1 ho6.2 ?_
    refine a_aload_n (pc := 116) dX9_putRide_116 (by decide) rfl ?_
    refine a_dup (pc := 117) dX9_putRide_117 n21 ?_
    refine a_getI (y := 14) (pc := 118) dX9_putRide_118 fl_RX9_155 (by decide) s0_275 (Or.inl rfl) rfl ?_
    refine a_eq (y := M 275 14) rfl ?_
    refine a_iconst (pc := 121) dX9_putRide_121 (by decide) ?_
    have ho7 := h.1
    replace h := h.2
    refine a_iadd (pc := 122) dX9_putRide_122 ho7 ?_
    refine a_putI (y := 14) (pc := 123) dX9_putRide_123 fl_RX9_155 (by decide) s0_275 rfl rfl (tyX9_ok 14 (by decide)) rfl ?_
    exact a_vret (pc := 126) dX9_putRide_126 rfl rfl (Nat.le_of_ble_eq_true rfl) ⟨rfl, h⟩
  · replace h := h.2 hc4
    have ho8 := h.1
    replace h := h.2
    refine a_iinc (ls1 := [(2, 275), (0, l1), (9, 0), (0, l3), (0, l4), (0, l5 + 1)]) (pc := 97) dX9_putRide_97 rfl (by decide) (hp1 (t := 0) rfl (by decide)) ho8 rfl ?_
    refine a_goto (tgt := 85) (pc := 100) dX9_putRide_100 (by decide) ?_
    exact h
theorem E_R_putRide {l1 l2 : Int} {M : Mem} {Q : Int → Mem → Prop} (h : AW mX9_putRide 0 [(2, 275), (0, l1), (0, l2), (9, 0), (9, 0), (9, 0)] M Q) : Calls mX9_putRide [(2, 275), (0, l1), (0, l2)] S0 M Q := calls_of (by decide) (by decide) (Nat.le_of_ble_eq_true rfl) rfl h
set_option maxRecDepth 100000 in
set_option maxHeartbeats 4000000 in
theorem B_R_feed_0 {l1 : Int} {M : Mem} {Q : Int → Mem → Prop} (h : ((l1 < 1 → Q (-2) (up2 M 275 8 0)) ∧ (¬ (l1 < 1) → ((127 < l1 → Q (-2) (up2 M 275 8 0)) ∧ (¬ (127 < l1) → ((¬ (M 275 26) = 80 → ((0 : Int) ≤ M 275 26 ∧ M 275 26 < 80) ∧ (-2147483648 ≤ (M 275 26) + 1 ∧ (M 275 26) + 1 ≤ 2147483647) ∧ Q ((M 275 26) + 1) (up2 (up2 (up2 M 275 8 0) 292 (M 275 26) l1) 275 26 ((M 275 26) + 1))) ∧ ((M 275 26) = 80 → Q (-4) (up2 M 275 8 0)))))))) : AW mX9_feed 0 [(2, 275), (0, l1)] M Q := by
  refine a_aload_n (pc := 0) dX9_feed_0 (by decide) rfl ?_
  refine a_iconst (pc := 1) dX9_feed_1 (by decide) ?_
  refine a_putI (y := 8) (pc := 2) dX9_feed_2 fl_RX9_87 (by decide) s0_275 rfl rfl (tyX9_ok 8 (by decide)) rfl ?_
  refine a_iload_n (pc := 5) dX9_feed_5 rfl ?_
  refine a_i2l (pc := 6) dX9_feed_6 ?_
  refine a_lconst (v := 1) (pc := 7) dX9_feed_7 rfl ?_
  refine a_ldc2 (v := 127) (pc := 8) dX9_feed_8 kc_RX9_171 (by decide) ?_
  refine p_inlS (Ex := _) (As := [(1, l1), (1, 1), (1, 127)]) (st := []) (st1 := fun r => [(0, r)])  (pc := 11) dX9_feed_11 ml_RX9_92 (by decide) (Nat.le_of_ble_eq_true rfl) rfl (fun _ => rfl) (by decide) (by decide) (Nat.le_of_ble_eq_true rfl) rfl ?_
  refine a_lload_n (pc := 0) dX9_in_0 rfl ?_
  refine a_lload_n (pc := 1) dX9_in_1 rfl ?_
  refine a_lcmp_lt (tgt := 17) (pc := 2) dX9_in_2 dX9_in_3 (by decide) (fun hc1 => ?_) (fun hc1 => ?_)
  · replace h := h.1 hc1
    refine a_iconst (pc := 17) dX9_in_17 (by decide) ?_
    refine a_iretz (pc := 18) dX9_in_18 rfl rfl (Nat.le_of_ble_eq_true rfl) (by decide) ⟨rfl, ?_⟩
    refine a_if_ne (tgt := 20) (pc := 14) dX9_feed_14 (by decide) (fun hc => absurd rfl hc) (fun _ => ?_)
    refine a_bipush (pc := 17) dX9_feed_17 (by decide) (by decide +kernel) ?_
    exact a_ireti (pc := 19) dX9_feed_19 rfl rfl (Nat.le_of_ble_eq_true rfl) ⟨rfl, h⟩
  · replace h := h.2 hc1
    refine a_lload_n (pc := 6) dX9_in_6 rfl ?_
    refine a_lload (pc := 7) dX9_in_7 rfl ?_
    refine a_lcmp_gt (tgt := 17) (pc := 9) dX9_in_9 dX9_in_10 (by decide) (fun hc2 => ?_) (fun hc2 => ?_)
    · replace h := h.1 hc2
      refine a_iconst (pc := 17) dX9_in_17 (by decide) ?_
      refine a_iretz (pc := 18) dX9_in_18 rfl rfl (Nat.le_of_ble_eq_true rfl) (by decide) ⟨rfl, ?_⟩
      refine a_if_ne (tgt := 20) (pc := 14) dX9_feed_14 (by decide) (fun hc => absurd rfl hc) (fun _ => ?_)
      refine a_bipush (pc := 17) dX9_feed_17 (by decide) (by decide +kernel) ?_
      exact a_ireti (pc := 19) dX9_feed_19 rfl rfl (Nat.le_of_ble_eq_true rfl) ⟨rfl, h⟩
    · replace h := h.2 hc2
      refine a_iconst (pc := 13) dX9_in_13 (by decide) ?_
      refine a_goto (tgt := 18) (pc := 14) dX9_in_14 (by decide) ?_
      refine a_iretz (pc := 18) dX9_in_18 rfl rfl (Nat.le_of_ble_eq_true rfl) (by decide) ⟨rfl, ?_⟩
      refine a_if_ne (tgt := 20) (pc := 14) dX9_feed_14 (by decide) (fun _ => ?_) (fun hc => absurd hc (by decide))
      refine a_aload_n (pc := 20) dX9_feed_20 (by decide) rfl ?_
      refine a_getI (y := 26) (pc := 21) dX9_feed_21 fl_RX9_173 (by decide) s0_275 (Or.inl rfl) rfl ?_
      refine a_eq (y := M 275 26) rfl ?_
      refine a_bipush (pc := 24) dX9_feed_24 (by decide) (by decide +kernel) ?_
      refine a_icmp_ne (tgt := 32) (pc := 26) dX9_feed_26 (by decide) (fun hc3 => ?_) (fun hc3 => ?_)
      · replace h := h.1 hc3
        refine a_aload_n (pc := 32) dX9_feed_32 (by decide) rfl ?_
        refine a_getR (y := 292) (pc := 33) dX9_feed_33 fl_RX9_65 (by decide) s0_275 rfl rfl ?_
        refine a_aload_n (pc := 36) dX9_feed_36 (by decide) rfl ?_
        refine a_getI (y := 26) (pc := 37) dX9_feed_37 fl_RX9_173 (by decide) s0_275 (Or.inl rfl) rfl ?_
        refine a_eq (y := M 275 26) rfl ?_
        refine a_iload_n (pc := 40) dX9_feed_40 rfl ?_
        have ho4 := h.1
        replace h := h.2
        refine a_iast (pc := 41) dX9_feed_41 (by decide) s0_292 ho4.1 ho4.2 ?_
        refine a_aload_n (pc := 42) dX9_feed_42 (by decide) rfl ?_
        refine a_dup (pc := 43) dX9_feed_43 n21 ?_
        refine a_getI (y := 26) (pc := 44) dX9_feed_44 fl_RX9_173 (by decide) s0_275 (Or.inl rfl) rfl ?_
        refine a_eq (y := M 275 26) rfl ?_
        refine a_iconst (pc := 47) dX9_feed_47 (by decide) ?_
        have ho5 := h.1
        replace h := h.2
        refine a_iadd (pc := 48) dX9_feed_48 ho5 ?_
        refine a_putI (y := 26) (pc := 49) dX9_feed_49 fl_RX9_173 (by decide) s0_275 rfl rfl (tyX9_ok 26 (by decide)) rfl ?_
        refine a_aload_n (pc := 52) dX9_feed_52 (by decide) rfl ?_
        refine a_getI (y := 26) (pc := 53) dX9_feed_53 fl_RX9_173 (by decide) s0_275 (Or.inl rfl) rfl ?_
        refine a_eq (y := (M 275 26) + 1) rfl ?_
        exact a_ireti (pc := 56) dX9_feed_56 rfl rfl (Nat.le_of_ble_eq_true rfl) ⟨rfl, h⟩
      · replace h := h.2 hc3
        refine a_bipush (pc := 29) dX9_feed_29 (by decide) (by decide +kernel) ?_
        exact a_ireti (pc := 31) dX9_feed_31 rfl rfl (Nat.le_of_ble_eq_true rfl) ⟨rfl, h⟩
theorem E_R_feed {l1 : Int} {M : Mem} {Q : Int → Mem → Prop} (h : AW mX9_feed 0 [(2, 275), (0, l1)] M Q) : Calls mX9_feed [(2, 275), (0, l1)] S0 M Q := calls_of (by decide) (by decide) (Nat.le_of_ble_eq_true rfl) rfl h
set_option maxRecDepth 100000 in
set_option maxHeartbeats 4000000 in
theorem B_R_paper_0 {l1 : Int} {M : Mem} {Q : Int → Mem → Prop} (h : (-2147483648 ≤ (M 275 37) - 1 ∧ (M 275 37) - 1 ≤ 2147483647) ∧ ((l1 < 0 → Q (-1) (up2 M 275 8 0)) ∧ (¬ (l1 < 0) → ((((M 275 37) - 1) < l1 → Q (-1) (up2 M 275 8 0)) ∧ (¬ (((M 275 37) - 1) < l1) → ((0 : Int) ≤ l1 ∧ l1 < 200) ∧ Q (M 295 l1) (up2 M 275 8 0)))))) : AW mX9_paper 0 [(2, 275), (0, l1)] M Q := by
  refine a_aload_n (pc := 0) dX9_paper_0 (by decide) rfl ?_
  refine a_iconst (pc := 1) dX9_paper_1 (by decide) ?_
  refine a_putI (y := 8) (pc := 2) dX9_paper_2 fl_RX9_87 (by decide) s0_275 rfl rfl (tyX9_ok 8 (by decide)) rfl ?_
  refine a_iload_n (pc := 5) dX9_paper_5 rfl ?_
  refine a_i2l (pc := 6) dX9_paper_6 ?_
  refine a_lconst (v := 0) (pc := 7) dX9_paper_7 rfl ?_
  refine a_aload_n (pc := 8) dX9_paper_8 (by decide) rfl ?_
  refine a_getI (y := 37) (pc := 9) dX9_paper_9 fl_RX9_321 (by decide) s0_275 (Or.inl rfl) rfl ?_
  refine a_eq (y := M 275 37) rfl ?_
  refine a_iconst (pc := 12) dX9_paper_12 (by decide) ?_
  have ho1 := h.1
  replace h := h.2
  refine a_isub (pc := 13) dX9_paper_13 ho1 ?_
  refine a_i2l (pc := 14) dX9_paper_14 ?_
  refine p_inlS (Ex := _) (As := [(1, l1), (1, 0), (1, (M 275 37) - 1)]) (st := []) (st1 := fun r => [(0, r)])  (pc := 15) dX9_paper_15 ml_RX9_92 (by decide) (Nat.le_of_ble_eq_true rfl) rfl (fun _ => rfl) (by decide) (by decide) (Nat.le_of_ble_eq_true rfl) rfl ?_
  refine a_lload_n (pc := 0) dX9_in_0 rfl ?_
  refine a_lload_n (pc := 1) dX9_in_1 rfl ?_
  refine a_lcmp_lt (tgt := 17) (pc := 2) dX9_in_2 dX9_in_3 (by decide) (fun hc2 => ?_) (fun hc2 => ?_)
  · replace h := h.1 hc2
    refine a_iconst (pc := 17) dX9_in_17 (by decide) ?_
    refine a_iretz (pc := 18) dX9_in_18 rfl rfl (Nat.le_of_ble_eq_true rfl) (by decide) ⟨rfl, ?_⟩
    refine a_if_eq (tgt := 30) (pc := 18) dX9_paper_18 (by decide) (fun _ => ?_) (fun hc => absurd (by decide) hc)
    refine a_iconst (pc := 30) dX9_paper_30 (by decide) ?_
    exact a_ireti (pc := 31) dX9_paper_31 rfl rfl (Nat.le_of_ble_eq_true rfl) ⟨rfl, h⟩
  · replace h := h.2 hc2
    refine a_lload_n (pc := 6) dX9_in_6 rfl ?_
    refine a_lload (pc := 7) dX9_in_7 rfl ?_
    refine a_lcmp_gt (tgt := 17) (pc := 9) dX9_in_9 dX9_in_10 (by decide) (fun hc3 => ?_) (fun hc3 => ?_)
    · replace h := h.1 hc3
      refine a_iconst (pc := 17) dX9_in_17 (by decide) ?_
      refine a_iretz (pc := 18) dX9_in_18 rfl rfl (Nat.le_of_ble_eq_true rfl) (by decide) ⟨rfl, ?_⟩
      refine a_if_eq (tgt := 30) (pc := 18) dX9_paper_18 (by decide) (fun _ => ?_) (fun hc => absurd (by decide) hc)
      refine a_iconst (pc := 30) dX9_paper_30 (by decide) ?_
      exact a_ireti (pc := 31) dX9_paper_31 rfl rfl (Nat.le_of_ble_eq_true rfl) ⟨rfl, h⟩
    · replace h := h.2 hc3
      refine a_iconst (pc := 13) dX9_in_13 (by decide) ?_
      refine a_goto (tgt := 18) (pc := 14) dX9_in_14 (by decide) ?_
      refine a_iretz (pc := 18) dX9_in_18 rfl rfl (Nat.le_of_ble_eq_true rfl) (by decide) ⟨rfl, ?_⟩
      refine a_if_eq (tgt := 30) (pc := 18) dX9_paper_18 (by decide) (fun hc => absurd hc (by decide)) (fun _ => ?_)
      refine a_aload_n (pc := 21) dX9_paper_21 (by decide) rfl ?_
      refine a_getR (y := 295) (pc := 22) dX9_paper_22 fl_RX9_74 (by decide) s0_275 rfl rfl ?_
      refine a_iload_n (pc := 25) dX9_paper_25 rfl ?_
      have ho4 := h.1
      replace h := h.2
      refine a_iald (pc := 26) dX9_paper_26 (by decide) s0_295 ho4.1 ho4.2 ?_
      refine a_eq (y := M 295 l1) rfl ?_
      refine a_goto (tgt := 31) (pc := 27) dX9_paper_27 (by decide) ?_
      exact a_ireti (pc := 31) dX9_paper_31 rfl rfl (Nat.le_of_ble_eq_true rfl) ⟨rfl, h⟩
theorem E_R_paper {l1 : Int} {M : Mem} {Q : Int → Mem → Prop} (h : AW mX9_paper 0 [(2, 275), (0, l1)] M Q) : Calls mX9_paper [(2, 275), (0, l1)] S0 M Q := calls_of (by decide) (by decide) (Nat.le_of_ble_eq_true rfl) rfl h
set_option maxRecDepth 100000 in
set_option maxHeartbeats 4000000 in
theorem B_R_readFigures_0 {l1 : Int} {M : Mem} {Q : Int → Mem → Prop} (h : ((¬ (M 275 28) = 0 → AW mX9_readFigures 45 [(2, 275), (0, l1), (0, 0), (0, 0)] (up2 (up2 M 275 28 1) 275 29 (M 275 27)) Q) ∧ ((M 275 28) = 0 → (((M 275 26) ≤ (M 275 27) → AW mX9_readFigures 45 [(2, 275), (0, l1), (0, 0), (0, 0)] (up2 (up2 M 275 28 1) 275 29 (M 275 27)) Q) ∧ (¬ ((M 275 26) ≤ (M 275 27)) → ((0 : Int) ≤ M 275 27 ∧ M 275 27 < 80) ∧ (((M 292 (M 275 27)) < 48 → AW mX9_readFigures 45 [(2, 275), (0, l1), (0, 0), (0, 0)] (up2 (up2 M 275 28 1) 275 29 (M 275 27)) Q) ∧ (¬ ((M 292 (M 275 27)) < 48) → ((57 < (M 292 (M 275 27)) → AW mX9_readFigures 45 [(2, 275), (0, l1), (0, 0), (0, 0)] (up2 (up2 M 275 28 1) 275 29 (M 275 27)) Q) ∧ (¬ (57 < (M 292 (M 275 27))) → AW mX9_readFigures 45 [(2, 275), (0, l1), (0, 0), (0, 0)] (up2 (up2 M 275 28 0) 275 29 (M 275 27)) Q))))))))) : AW mX9_readFigures 0 [(2, 275), (0, l1), (9, 0), (9, 0)] M Q := by
  refine a_aload_n (pc := 0) dX9_readFigures_0 (by decide) rfl ?_
  refine a_aload_n (pc := 1) dX9_readFigures_1 (by decide) rfl ?_
  refine a_getI (y := 28) (pc := 2) dX9_readFigures_2 fl_RX9_179 (by decide) s0_275 (Or.inr rfl) rfl ?_
  refine a_if_ne (tgt := 25) (pc := 5) dX9_readFigures_5 (by decide) (fun hc1 => ?_) (fun hc1 => ?_)
  · replace h := h.1 hc1
    refine a_iconst (pc := 25) dX9_readFigures_25 (by decide) ?_
    refine a_goto (tgt := 30) (pc := 26) dX9_readFigures_26 (by decide) ?_
    refine a_putZ (y := 28) (pc := 30) dX9_readFigures_30 fl_RX9_179 (by decide) s0_275 rfl rfl (tyX9_ok 28 (by decide)) rfl (by decide) ?_
    refine a_aload_n (pc := 33) dX9_readFigures_33 (by decide) rfl ?_
    refine a_aload_n (pc := 34) dX9_readFigures_34 (by decide) rfl ?_
    refine a_getI (y := 27) (pc := 35) dX9_readFigures_35 fl_RX9_176 (by decide) s0_275 (Or.inl rfl) rfl ?_
    refine a_eq (y := M 275 27) rfl ?_
    refine a_putI (y := 29) (pc := 38) dX9_readFigures_38 fl_RX9_194 (by decide) s0_275 rfl rfl (tyX9_ok 29 (by decide)) rfl ?_
    refine a_iconst (pc := 41) dX9_readFigures_41 (by decide) ?_
    refine a_istore_n (ls1 := [(2, 275), (0, l1), (0, 0), (9, 0)]) (pc := 42) dX9_readFigures_42 (by decide) (hp1 (t := 0) rfl (by decide)) rfl ?_
    refine a_iconst (pc := 43) dX9_readFigures_43 (by decide) ?_
    refine a_istore_n (ls1 := [(2, 275), (0, l1), (0, 0), (0, 0)]) (pc := 44) dX9_readFigures_44 (by decide) (hp1 (t := 0) rfl (by decide)) rfl ?_
    exact h
  · replace h := h.2 hc1
    refine a_aload_n (pc := 8) dX9_readFigures_8 (by decide) rfl ?_
    refine p_inlV (Ex := _) (As := []) (st := [(2, 275)]) (st1 := fun r => [(0, r), (2, 275)])  (pc := 9) dX9_readFigures_9 ml_RX9_183 (by decide) s0_275 rfl (by decide) (Nat.le_of_ble_eq_true rfl) rfl (fun _ => rfl) (by decide) (by decide) (Nat.le_of_ble_eq_true rfl) rfl ?_
    refine a_aload_n (pc := 0) dX9_here_0 (by decide) rfl ?_
    refine a_getI (y := 27) (pc := 1) dX9_here_1 fl_RX9_176 (by decide) s0_275 (Or.inl rfl) rfl ?_
    refine a_aload_n (pc := 4) dX9_here_4 (by decide) rfl ?_
    refine a_getI (y := 26) (pc := 5) dX9_here_5 fl_RX9_173 (by decide) s0_275 (Or.inl rfl) rfl ?_
    refine a_icmp_ge (tgt := 23) (pc := 8) dX9_here_8 (by decide) (fun hc2 => ?_) (fun hc2 => ?_)
    · replace h := h.1 hc2
      refine a_iconst (pc := 23) dX9_here_23 (by decide) ?_
      refine a_ireti (pc := 24) dX9_here_24 rfl rfl (Nat.le_of_ble_eq_true rfl) ⟨rfl, ?_⟩
      refine a_i2l (pc := 12) dX9_readFigures_12 ?_
      refine a_ldc2 (v := 48) (pc := 13) dX9_readFigures_13 kc_RX9_190 (by decide) ?_
      refine a_ldc2 (v := 57) (pc := 16) dX9_readFigures_16 kc_RX9_192 (by decide) ?_
      refine p_inlS (Ex := _) (As := [(1, (-1)), (1, 48), (1, 57)]) (st := [(2, 275)]) (st1 := fun r => [(0, r), (2, 275)])  (pc := 19) dX9_readFigures_19 ml_RX9_92 (by decide) (Nat.le_of_ble_eq_true rfl) rfl (fun _ => rfl) (by decide) (by decide) (Nat.le_of_ble_eq_true rfl) rfl ?_
      refine a_lload_n (pc := 0) dX9_in_0 rfl ?_
      refine a_lload_n (pc := 1) dX9_in_1 rfl ?_
      refine a_lcmp_lt (tgt := 17) (pc := 2) dX9_in_2 dX9_in_3 (by decide) (fun _ => ?_) (fun hc => absurd (by decide) hc)
      refine a_iconst (pc := 17) dX9_in_17 (by decide) ?_
      refine a_iretz (pc := 18) dX9_in_18 rfl rfl (Nat.le_of_ble_eq_true rfl) (by decide) ⟨rfl, ?_⟩
      refine a_if_ne (tgt := 29) (pc := 22) dX9_readFigures_22 (by decide) (fun hc => absurd rfl hc) (fun _ => ?_)
      refine a_iconst (pc := 25) dX9_readFigures_25 (by decide) ?_
      refine a_goto (tgt := 30) (pc := 26) dX9_readFigures_26 (by decide) ?_
      refine a_putZ (y := 28) (pc := 30) dX9_readFigures_30 fl_RX9_179 (by decide) s0_275 rfl rfl (tyX9_ok 28 (by decide)) rfl (by decide) ?_
      refine a_aload_n (pc := 33) dX9_readFigures_33 (by decide) rfl ?_
      refine a_aload_n (pc := 34) dX9_readFigures_34 (by decide) rfl ?_
      refine a_getI (y := 27) (pc := 35) dX9_readFigures_35 fl_RX9_176 (by decide) s0_275 (Or.inl rfl) rfl ?_
      refine a_eq (y := M 275 27) rfl ?_
      refine a_putI (y := 29) (pc := 38) dX9_readFigures_38 fl_RX9_194 (by decide) s0_275 rfl rfl (tyX9_ok 29 (by decide)) rfl ?_
      refine a_iconst (pc := 41) dX9_readFigures_41 (by decide) ?_
      refine a_istore_n (ls1 := [(2, 275), (0, l1), (0, 0), (9, 0)]) (pc := 42) dX9_readFigures_42 (by decide) (hp1 (t := 0) rfl (by decide)) rfl ?_
      refine a_iconst (pc := 43) dX9_readFigures_43 (by decide) ?_
      refine a_istore_n (ls1 := [(2, 275), (0, l1), (0, 0), (0, 0)]) (pc := 44) dX9_readFigures_44 (by decide) (hp1 (t := 0) rfl (by decide)) rfl ?_
      exact h
    · replace h := h.2 hc2
      refine a_aload_n (pc := 11) dX9_here_11 (by decide) rfl ?_
      refine a_getR (y := 292) (pc := 12) dX9_here_12 fl_RX9_65 (by decide) s0_275 rfl rfl ?_
      refine a_aload_n (pc := 15) dX9_here_15 (by decide) rfl ?_
      refine a_getI (y := 27) (pc := 16) dX9_here_16 fl_RX9_176 (by decide) s0_275 (Or.inl rfl) rfl ?_
      have ho3 := h.1
      replace h := h.2
      refine a_iald (pc := 19) dX9_here_19 (by decide) s0_292 ho3.1 ho3.2 ?_
      refine a_goto (tgt := 24) (pc := 20) dX9_here_20 (by decide) ?_
      refine a_ireti (pc := 24) dX9_here_24 rfl rfl (Nat.le_of_ble_eq_true rfl) ⟨rfl, ?_⟩
      refine a_i2l (pc := 12) dX9_readFigures_12 ?_
      refine a_ldc2 (v := 48) (pc := 13) dX9_readFigures_13 kc_RX9_190 (by decide) ?_
      refine a_ldc2 (v := 57) (pc := 16) dX9_readFigures_16 kc_RX9_192 (by decide) ?_
      refine p_inlS (Ex := _) (As := [(1, M 292 (M 275 27)), (1, 48), (1, 57)]) (st := [(2, 275)]) (st1 := fun r => [(0, r), (2, 275)])  (pc := 19) dX9_readFigures_19 ml_RX9_92 (by decide) (Nat.le_of_ble_eq_true rfl) rfl (fun _ => rfl) (by decide) (by decide) (Nat.le_of_ble_eq_true rfl) rfl ?_
      refine a_lload_n (pc := 0) dX9_in_0 rfl ?_
      refine a_lload_n (pc := 1) dX9_in_1 rfl ?_
      refine a_lcmp_lt (tgt := 17) (pc := 2) dX9_in_2 dX9_in_3 (by decide) (fun hc4 => ?_) (fun hc4 => ?_)
      · replace h := h.1 hc4
        refine a_iconst (pc := 17) dX9_in_17 (by decide) ?_
        refine a_iretz (pc := 18) dX9_in_18 rfl rfl (Nat.le_of_ble_eq_true rfl) (by decide) ⟨rfl, ?_⟩
        refine a_if_ne (tgt := 29) (pc := 22) dX9_readFigures_22 (by decide) (fun hc => absurd rfl hc) (fun _ => ?_)
        refine a_iconst (pc := 25) dX9_readFigures_25 (by decide) ?_
        refine a_goto (tgt := 30) (pc := 26) dX9_readFigures_26 (by decide) ?_
        refine a_putZ (y := 28) (pc := 30) dX9_readFigures_30 fl_RX9_179 (by decide) s0_275 rfl rfl (tyX9_ok 28 (by decide)) rfl (by decide) ?_
        refine a_aload_n (pc := 33) dX9_readFigures_33 (by decide) rfl ?_
        refine a_aload_n (pc := 34) dX9_readFigures_34 (by decide) rfl ?_
        refine a_getI (y := 27) (pc := 35) dX9_readFigures_35 fl_RX9_176 (by decide) s0_275 (Or.inl rfl) rfl ?_
        refine a_eq (y := M 275 27) rfl ?_
        refine a_putI (y := 29) (pc := 38) dX9_readFigures_38 fl_RX9_194 (by decide) s0_275 rfl rfl (tyX9_ok 29 (by decide)) rfl ?_
        refine a_iconst (pc := 41) dX9_readFigures_41 (by decide) ?_
        refine a_istore_n (ls1 := [(2, 275), (0, l1), (0, 0), (9, 0)]) (pc := 42) dX9_readFigures_42 (by decide) (hp1 (t := 0) rfl (by decide)) rfl ?_
        refine a_iconst (pc := 43) dX9_readFigures_43 (by decide) ?_
        refine a_istore_n (ls1 := [(2, 275), (0, l1), (0, 0), (0, 0)]) (pc := 44) dX9_readFigures_44 (by decide) (hp1 (t := 0) rfl (by decide)) rfl ?_
        exact h
      · replace h := h.2 hc4
        refine a_lload_n (pc := 6) dX9_in_6 rfl ?_
        refine a_lload (pc := 7) dX9_in_7 rfl ?_
        refine a_lcmp_gt (tgt := 17) (pc := 9) dX9_in_9 dX9_in_10 (by decide) (fun hc5 => ?_) (fun hc5 => ?_)
        · replace h := h.1 hc5
          refine a_iconst (pc := 17) dX9_in_17 (by decide) ?_
          refine a_iretz (pc := 18) dX9_in_18 rfl rfl (Nat.le_of_ble_eq_true rfl) (by decide) ⟨rfl, ?_⟩
          refine a_if_ne (tgt := 29) (pc := 22) dX9_readFigures_22 (by decide) (fun hc => absurd rfl hc) (fun _ => ?_)
          refine a_iconst (pc := 25) dX9_readFigures_25 (by decide) ?_
          refine a_goto (tgt := 30) (pc := 26) dX9_readFigures_26 (by decide) ?_
          refine a_putZ (y := 28) (pc := 30) dX9_readFigures_30 fl_RX9_179 (by decide) s0_275 rfl rfl (tyX9_ok 28 (by decide)) rfl (by decide) ?_
          refine a_aload_n (pc := 33) dX9_readFigures_33 (by decide) rfl ?_
          refine a_aload_n (pc := 34) dX9_readFigures_34 (by decide) rfl ?_
          refine a_getI (y := 27) (pc := 35) dX9_readFigures_35 fl_RX9_176 (by decide) s0_275 (Or.inl rfl) rfl ?_
          refine a_eq (y := M 275 27) rfl ?_
          refine a_putI (y := 29) (pc := 38) dX9_readFigures_38 fl_RX9_194 (by decide) s0_275 rfl rfl (tyX9_ok 29 (by decide)) rfl ?_
          refine a_iconst (pc := 41) dX9_readFigures_41 (by decide) ?_
          refine a_istore_n (ls1 := [(2, 275), (0, l1), (0, 0), (9, 0)]) (pc := 42) dX9_readFigures_42 (by decide) (hp1 (t := 0) rfl (by decide)) rfl ?_
          refine a_iconst (pc := 43) dX9_readFigures_43 (by decide) ?_
          refine a_istore_n (ls1 := [(2, 275), (0, l1), (0, 0), (0, 0)]) (pc := 44) dX9_readFigures_44 (by decide) (hp1 (t := 0) rfl (by decide)) rfl ?_
          exact h
        · replace h := h.2 hc5
          refine a_iconst (pc := 13) dX9_in_13 (by decide) ?_
          refine a_goto (tgt := 18) (pc := 14) dX9_in_14 (by decide) ?_
          refine a_iretz (pc := 18) dX9_in_18 rfl rfl (Nat.le_of_ble_eq_true rfl) (by decide) ⟨rfl, ?_⟩
          refine a_if_ne (tgt := 29) (pc := 22) dX9_readFigures_22 (by decide) (fun _ => ?_) (fun hc => absurd hc (by decide))
          refine a_iconst (pc := 29) dX9_readFigures_29 (by decide) ?_
          refine a_putZ (y := 28) (pc := 30) dX9_readFigures_30 fl_RX9_179 (by decide) s0_275 rfl rfl (tyX9_ok 28 (by decide)) rfl (by decide) ?_
          refine a_aload_n (pc := 33) dX9_readFigures_33 (by decide) rfl ?_
          refine a_aload_n (pc := 34) dX9_readFigures_34 (by decide) rfl ?_
          refine a_getI (y := 27) (pc := 35) dX9_readFigures_35 fl_RX9_176 (by decide) s0_275 (Or.inl rfl) rfl ?_
          refine a_eq (y := M 275 27) rfl ?_
          refine a_putI (y := 29) (pc := 38) dX9_readFigures_38 fl_RX9_194 (by decide) s0_275 rfl rfl (tyX9_ok 29 (by decide)) rfl ?_
          refine a_iconst (pc := 41) dX9_readFigures_41 (by decide) ?_
          refine a_istore_n (ls1 := [(2, 275), (0, l1), (0, 0), (9, 0)]) (pc := 42) dX9_readFigures_42 (by decide) (hp1 (t := 0) rfl (by decide)) rfl ?_
          refine a_iconst (pc := 43) dX9_readFigures_43 (by decide) ?_
          refine a_istore_n (ls1 := [(2, 275), (0, l1), (0, 0), (0, 0)]) (pc := 44) dX9_readFigures_44 (by decide) (hp1 (t := 0) rfl (by decide)) rfl ?_
          exact h
set_option maxRecDepth 100000 in
set_option maxHeartbeats 4000000 in
theorem B_R_readFigures_45 {l1 l2 l3 : Int} {M : Mem} {Q : Int → Mem → Prop} (h : ((l1 ≤ l3 → Q l2 M) ∧ (¬ (l1 ≤ l3) → ((¬ (M 275 28) = 0 → Q l2 M) ∧ ((M 275 28) = 0 → (((M 275 26) ≤ (M 275 27) → Q l2 M) ∧ (¬ ((M 275 26) ≤ (M 275 27)) → ((0 : Int) ≤ M 275 27 ∧ M 275 27 < 80) ∧ (((M 292 (M 275 27)) < 48 → Q l2 M) ∧ (¬ ((M 292 (M 275 27)) < 48) → ((57 < (M 292 (M 275 27)) → Q l2 M) ∧ (¬ (57 < (M 292 (M 275 27))) → (-2147483648 ≤ 10 * l2 ∧ 10 * l2 ≤ 2147483647) ∧ (-2147483648 ≤ (10 * l2) + (M 292 (M 275 27)) ∧ (10 * l2) + (M 292 (M 275 27)) ≤ 2147483647) ∧ (-2147483648 ≤ ((10 * l2) + (M 292 (M 275 27))) - 48 ∧ ((10 * l2) + (M 292 (M 275 27))) - 48 ≤ 2147483647) ∧ (-2147483648 ≤ (M 275 27) + 1 ∧ (M 275 27) + 1 ≤ 2147483647) ∧ (-2147483648 ≤ l3 + 1 ∧ l3 + 1 ≤ 2147483647) ∧ AW mX9_readFigures 45 [(2, 275), (0, l1), (0, ((10 * l2) + (M 292 (M 275 27))) - 48), (0, l3 + 1)] (up2 M 275 27 ((M 275 27) + 1)) Q))))))))))) : AW mX9_readFigures 45 [(2, 275), (0, l1), (0, l2), (0, l3)] M Q := by
  refine a_iload_n (pc := 45) dX9_readFigures_45 rfl ?_
  refine a_iload_n (pc := 46) dX9_readFigures_46 rfl ?_
  refine a_icmp_ge (tgt := 103) (pc := 47) dX9_readFigures_47 (by decide) (fun hc1 => ?_) (fun hc1 => ?_)
  · replace h := h.1 hc1
    refine a_iload_n (pc := 103) dX9_readFigures_103 rfl ?_
    exact a_ireti (pc := 104) dX9_readFigures_104 rfl rfl (Nat.le_of_ble_eq_true rfl) ⟨rfl, h⟩
  · replace h := h.2 hc1
    refine a_aload_n (pc := 50) dX9_readFigures_50 (by decide) rfl ?_
    refine a_getI (y := 28) (pc := 51) dX9_readFigures_51 fl_RX9_179 (by decide) s0_275 (Or.inr rfl) rfl ?_
    refine a_if_ne (tgt := 103) (pc := 54) dX9_readFigures_54 (by decide) (fun hc2 => ?_) (fun hc2 => ?_)
    · replace h := h.1 hc2
      refine a_iload_n (pc := 103) dX9_readFigures_103 rfl ?_
      exact a_ireti (pc := 104) dX9_readFigures_104 rfl rfl (Nat.le_of_ble_eq_true rfl) ⟨rfl, h⟩
    · replace h := h.2 hc2
      refine a_aload_n (pc := 57) dX9_readFigures_57 (by decide) rfl ?_
      refine p_inlV (Ex := _) (As := []) (st := []) (st1 := fun r => [(0, r)])  (pc := 58) dX9_readFigures_58 ml_RX9_183 (by decide) s0_275 rfl (by decide) (Nat.le_of_ble_eq_true rfl) rfl (fun _ => rfl) (by decide) (by decide) (Nat.le_of_ble_eq_true rfl) rfl ?_
      refine a_aload_n (pc := 0) dX9_here_0 (by decide) rfl ?_
      refine a_getI (y := 27) (pc := 1) dX9_here_1 fl_RX9_176 (by decide) s0_275 (Or.inl rfl) rfl ?_
      refine a_aload_n (pc := 4) dX9_here_4 (by decide) rfl ?_
      refine a_getI (y := 26) (pc := 5) dX9_here_5 fl_RX9_173 (by decide) s0_275 (Or.inl rfl) rfl ?_
      refine a_icmp_ge (tgt := 23) (pc := 8) dX9_here_8 (by decide) (fun hc3 => ?_) (fun hc3 => ?_)
      · replace h := h.1 hc3
        refine a_iconst (pc := 23) dX9_here_23 (by decide) ?_
        refine a_ireti (pc := 24) dX9_here_24 rfl rfl (Nat.le_of_ble_eq_true rfl) ⟨rfl, ?_⟩
        refine a_i2l (pc := 61) dX9_readFigures_61 ?_
        refine a_ldc2 (v := 48) (pc := 62) dX9_readFigures_62 kc_RX9_190 (by decide) ?_
        refine a_ldc2 (v := 57) (pc := 65) dX9_readFigures_65 kc_RX9_192 (by decide) ?_
        refine p_inlS (Ex := _) (As := [(1, (-1)), (1, 48), (1, 57)]) (st := []) (st1 := fun r => [(0, r)])  (pc := 68) dX9_readFigures_68 ml_RX9_92 (by decide) (Nat.le_of_ble_eq_true rfl) rfl (fun _ => rfl) (by decide) (by decide) (Nat.le_of_ble_eq_true rfl) rfl ?_
        refine a_lload_n (pc := 0) dX9_in_0 rfl ?_
        refine a_lload_n (pc := 1) dX9_in_1 rfl ?_
        refine a_lcmp_lt (tgt := 17) (pc := 2) dX9_in_2 dX9_in_3 (by decide) (fun _ => ?_) (fun hc => absurd (by decide) hc)
        refine a_iconst (pc := 17) dX9_in_17 (by decide) ?_
        refine a_iretz (pc := 18) dX9_in_18 rfl rfl (Nat.le_of_ble_eq_true rfl) (by decide) ⟨rfl, ?_⟩
        refine a_if_eq (tgt := 103) (pc := 71) dX9_readFigures_71 (by decide) (fun _ => ?_) (fun hc => absurd (by decide) hc)
        refine a_iload_n (pc := 103) dX9_readFigures_103 rfl ?_
        exact a_ireti (pc := 104) dX9_readFigures_104 rfl rfl (Nat.le_of_ble_eq_true rfl) ⟨rfl, h⟩
      · replace h := h.2 hc3
        refine a_aload_n (pc := 11) dX9_here_11 (by decide) rfl ?_
        refine a_getR (y := 292) (pc := 12) dX9_here_12 fl_RX9_65 (by decide) s0_275 rfl rfl ?_
        refine a_aload_n (pc := 15) dX9_here_15 (by decide) rfl ?_
        refine a_getI (y := 27) (pc := 16) dX9_here_16 fl_RX9_176 (by decide) s0_275 (Or.inl rfl) rfl ?_
        have ho4 := h.1
        replace h := h.2
        refine a_iald (pc := 19) dX9_here_19 (by decide) s0_292 ho4.1 ho4.2 ?_
        refine a_goto (tgt := 24) (pc := 20) dX9_here_20 (by decide) ?_
        refine a_ireti (pc := 24) dX9_here_24 rfl rfl (Nat.le_of_ble_eq_true rfl) ⟨rfl, ?_⟩
        refine a_i2l (pc := 61) dX9_readFigures_61 ?_
        refine a_ldc2 (v := 48) (pc := 62) dX9_readFigures_62 kc_RX9_190 (by decide) ?_
        refine a_ldc2 (v := 57) (pc := 65) dX9_readFigures_65 kc_RX9_192 (by decide) ?_
        refine p_inlS (Ex := _) (As := [(1, M 292 (M 275 27)), (1, 48), (1, 57)]) (st := []) (st1 := fun r => [(0, r)])  (pc := 68) dX9_readFigures_68 ml_RX9_92 (by decide) (Nat.le_of_ble_eq_true rfl) rfl (fun _ => rfl) (by decide) (by decide) (Nat.le_of_ble_eq_true rfl) rfl ?_
        refine a_lload_n (pc := 0) dX9_in_0 rfl ?_
        refine a_lload_n (pc := 1) dX9_in_1 rfl ?_
        refine a_lcmp_lt (tgt := 17) (pc := 2) dX9_in_2 dX9_in_3 (by decide) (fun hc5 => ?_) (fun hc5 => ?_)
        · replace h := h.1 hc5
          refine a_iconst (pc := 17) dX9_in_17 (by decide) ?_
          refine a_iretz (pc := 18) dX9_in_18 rfl rfl (Nat.le_of_ble_eq_true rfl) (by decide) ⟨rfl, ?_⟩
          refine a_if_eq (tgt := 103) (pc := 71) dX9_readFigures_71 (by decide) (fun _ => ?_) (fun hc => absurd (by decide) hc)
          refine a_iload_n (pc := 103) dX9_readFigures_103 rfl ?_
          exact a_ireti (pc := 104) dX9_readFigures_104 rfl rfl (Nat.le_of_ble_eq_true rfl) ⟨rfl, h⟩
        · replace h := h.2 hc5
          refine a_lload_n (pc := 6) dX9_in_6 rfl ?_
          refine a_lload (pc := 7) dX9_in_7 rfl ?_
          refine a_lcmp_gt (tgt := 17) (pc := 9) dX9_in_9 dX9_in_10 (by decide) (fun hc6 => ?_) (fun hc6 => ?_)
          · replace h := h.1 hc6
            refine a_iconst (pc := 17) dX9_in_17 (by decide) ?_
            refine a_iretz (pc := 18) dX9_in_18 rfl rfl (Nat.le_of_ble_eq_true rfl) (by decide) ⟨rfl, ?_⟩
            refine a_if_eq (tgt := 103) (pc := 71) dX9_readFigures_71 (by decide) (fun _ => ?_) (fun hc => absurd (by decide) hc)
            refine a_iload_n (pc := 103) dX9_readFigures_103 rfl ?_
            exact a_ireti (pc := 104) dX9_readFigures_104 rfl rfl (Nat.le_of_ble_eq_true rfl) ⟨rfl, h⟩
          · replace h := h.2 hc6
            refine a_iconst (pc := 13) dX9_in_13 (by decide) ?_
            refine a_goto (tgt := 18) (pc := 14) dX9_in_14 (by decide) ?_
            refine a_iretz (pc := 18) dX9_in_18 rfl rfl (Nat.le_of_ble_eq_true rfl) (by decide) ⟨rfl, ?_⟩
            refine a_if_eq (tgt := 103) (pc := 71) dX9_readFigures_71 (by decide) (fun hc => absurd hc (by decide)) (fun _ => ?_)
            refine a_bipush (pc := 74) dX9_readFigures_74 (by decide) (by decide +kernel) ?_
            refine a_iload_n (pc := 76) dX9_readFigures_76 rfl ?_
            have ho7 := h.1
            replace h := h.2
            refine a_imul (pc := 77) dX9_readFigures_77 ho7 ?_
            refine a_aload_n (pc := 78) dX9_readFigures_78 (by decide) rfl ?_
            refine p_inlV (Ex := _) (As := []) (st := [(0, 10 * l2)]) (st1 := fun r => [(0, r), (0, 10 * l2)])  (pc := 79) dX9_readFigures_79 ml_RX9_183 (by decide) s0_275 rfl (by decide) (Nat.le_of_ble_eq_true rfl) rfl (fun _ => rfl) (by decide) (by decide) (Nat.le_of_ble_eq_true rfl) rfl ?_
            refine a_aload_n (pc := 0) dX9_here_0 (by decide) rfl ?_
            refine a_getI (y := 27) (pc := 1) dX9_here_1 fl_RX9_176 (by decide) s0_275 (Or.inl rfl) rfl ?_
            refine a_aload_n (pc := 4) dX9_here_4 (by decide) rfl ?_
            refine a_getI (y := 26) (pc := 5) dX9_here_5 fl_RX9_173 (by decide) s0_275 (Or.inl rfl) rfl ?_
            refine a_icmp_ge (tgt := 23) (pc := 8) dX9_here_8 (by decide) (fun hc => absurd hc hc3) (fun _ => ?_)
            refine a_aload_n (pc := 11) dX9_here_11 (by decide) rfl ?_
            refine a_getR (y := 292) (pc := 12) dX9_here_12 fl_RX9_65 (by decide) s0_275 rfl rfl ?_
            refine a_aload_n (pc := 15) dX9_here_15 (by decide) rfl ?_
            refine a_getI (y := 27) (pc := 16) dX9_here_16 fl_RX9_176 (by decide) s0_275 (Or.inl rfl) rfl ?_
            refine a_iald (pc := 19) dX9_here_19 (by decide) s0_292 ho4.1 ho4.2 ?_
            refine a_goto (tgt := 24) (pc := 20) dX9_here_20 (by decide) ?_
            refine a_ireti (pc := 24) dX9_here_24 rfl rfl (Nat.le_of_ble_eq_true rfl) ⟨rfl, ?_⟩
            have ho8 := h.1
            replace h := h.2
            refine a_iadd (pc := 82) dX9_readFigures_82 ho8 ?_
            refine a_bipush (pc := 83) dX9_readFigures_83 (by decide) (by decide +kernel) ?_
            have ho9 := h.1
            replace h := h.2
            refine a_isub (pc := 85) dX9_readFigures_85 ho9 ?_
            refine a_istore_n (ls1 := [(2, 275), (0, l1), (0, ((10 * l2) + (M 292 (M 275 27))) - 48), (0, l3)]) (pc := 86) dX9_readFigures_86 (by decide) (hp1 (t := 0) rfl (by decide)) rfl ?_
            refine a_aload_n (pc := 87) dX9_readFigures_87 (by decide) rfl ?_
            refine a_dup (pc := 88) dX9_readFigures_88 n21 ?_
            refine a_getI (y := 27) (pc := 89) dX9_readFigures_89 fl_RX9_176 (by decide) s0_275 (Or.inl rfl) rfl ?_
            refine a_iconst (pc := 92) dX9_readFigures_92 (by decide) ?_
            have ho10 := h.1
            replace h := h.2
            refine a_iadd (pc := 93) dX9_readFigures_93 ho10 ?_
            refine a_putI (y := 27) (pc := 94) dX9_readFigures_94 fl_RX9_176 (by decide) s0_275 rfl rfl (tyX9_ok 27 (by decide)) rfl ?_
            have ho11 := h.1
            replace h := h.2
            refine a_iinc (ls1 := [(2, 275), (0, l1), (0, ((10 * l2) + (M 292 (M 275 27))) - 48), (0, l3 + 1)]) (pc := 97) dX9_readFigures_97 rfl (by decide) (hp1 (t := 0) rfl (by decide)) ho11 rfl ?_
            refine a_goto (tgt := 45) (pc := 100) dX9_readFigures_100 (by decide) ?_
            exact h
theorem E_R_readFigures {l1 : Int} {M : Mem} {Q : Int → Mem → Prop} (h : AW mX9_readFigures 0 [(2, 275), (0, l1), (9, 0), (9, 0)] M Q) : Calls mX9_readFigures [(2, 275), (0, l1)] S0 M Q := calls_of (by decide) (by decide) (Nat.le_of_ble_eq_true rfl) rfl h
set_option maxRecDepth 100000 in
set_option maxHeartbeats 4000000 in
theorem B_R_wants_0 {l1 : Int} {M : Mem} {Q : Int → Mem → Prop} (h : ((¬ (M 275 28) = 0 → (-2147483648 ≤ (M 275 27) + 0 ∧ (M 275 27) + 0 ≤ 2147483647) ∧ Q 0 (up2 (up2 M 275 27 ((M 275 27) + 0)) 275 28 1)) ∧ ((M 275 28) = 0 → (((M 275 26) ≤ (M 275 27) → ((¬ (-1) = l1 → (-2147483648 ≤ (M 275 27) + 0 ∧ (M 275 27) + 0 ≤ 2147483647) ∧ Q 0 (up2 (up2 M 275 27 ((M 275 27) + 0)) 275 28 1)) ∧ ((-1) = l1 → (-2147483648 ≤ (M 275 27) + 1 ∧ (M 275 27) + 1 ≤ 2147483647) ∧ Q 0 (up2 (up2 M 275 27 ((M 275 27) + 1)) 275 28 0)))) ∧ (¬ ((M 275 26) ≤ (M 275 27)) → ((0 : Int) ≤ M 275 27 ∧ M 275 27 < 80) ∧ ((¬ (M 292 (M 275 27)) = l1 → (-2147483648 ≤ (M 275 27) + 0 ∧ (M 275 27) + 0 ≤ 2147483647) ∧ Q 0 (up2 (up2 M 275 27 ((M 275 27) + 0)) 275 28 1)) ∧ ((M 292 (M 275 27)) = l1 → (-2147483648 ≤ (M 275 27) + 1 ∧ (M 275 27) + 1 ≤ 2147483647) ∧ Q 0 (up2 (up2 M 275 27 ((M 275 27) + 1)) 275 28 0)))))))) : AW mX9_wants 0 [(2, 275), (0, l1)] M Q := by
  refine a_aload_n (pc := 0) dX9_wants_0 (by decide) rfl ?_
  refine a_aload_n (pc := 1) dX9_wants_1 (by decide) rfl ?_
  refine a_iload_n (pc := 2) dX9_wants_2 rfl ?_
  refine p_inlV (Ex := _) (As := [(0, l1)]) (st := [(2, 275)]) (st1 := fun r => [(0, r), (2, 275)])  (pc := 3) dX9_wants_3 ml_RX9_187 (by decide) s0_275 rfl (by decide) (Nat.le_of_ble_eq_true rfl) rfl (fun _ => rfl) (by decide) (by decide) (Nat.le_of_ble_eq_true rfl) rfl ?_
  refine a_aload_n (pc := 0) dX9_goesOn_0 (by decide) rfl ?_
  refine a_getI (y := 28) (pc := 1) dX9_goesOn_1 fl_RX9_179 (by decide) s0_275 (Or.inr rfl) rfl ?_
  refine a_if_ne (tgt := 19) (pc := 4) dX9_goesOn_4 (by decide) (fun hc1 => ?_) (fun hc1 => ?_)
  · replace h := h.1 hc1
    refine a_iconst (pc := 19) dX9_goesOn_19 (by decide) ?_
    refine a_istore_n (ls1 := [(2, 275), (0, l1), (0, 0)]) (pc := 20) dX9_goesOn_20 (by decide) (hp1 (t := 0) rfl (by decide)) rfl ?_
    refine a_aload_n (pc := 21) dX9_goesOn_21 (by decide) rfl ?_
    refine a_dup (pc := 22) dX9_goesOn_22 n21 ?_
    refine a_getI (y := 27) (pc := 23) dX9_goesOn_23 fl_RX9_176 (by decide) s0_275 (Or.inl rfl) rfl ?_
    refine a_iload_n (pc := 26) dX9_goesOn_26 rfl ?_
    refine a_if_eq (tgt := 34) (pc := 27) dX9_goesOn_27 (by decide) (fun _ => ?_) (fun hc => absurd (by decide) hc)
    refine a_iconst (pc := 34) dX9_goesOn_34 (by decide) ?_
    have ho2 := h.1
    replace h := h.2
    refine a_iadd (pc := 35) dX9_goesOn_35 ho2 ?_
    refine a_putI (y := 27) (pc := 36) dX9_goesOn_36 fl_RX9_176 (by decide) s0_275 rfl rfl (tyX9_ok 27 (by decide)) rfl ?_
    refine a_iload_n (pc := 39) dX9_goesOn_39 rfl ?_
    refine a_iretz (pc := 40) dX9_goesOn_40 rfl rfl (Nat.le_of_ble_eq_true rfl) (by decide) ⟨rfl, ?_⟩
    refine a_if_eq (tgt := 16) (pc := 6) dX9_wants_6 (by decide) (fun _ => ?_) (fun hc => absurd (by decide) hc)
    refine a_iconst (pc := 16) dX9_wants_16 (by decide) ?_
    refine a_goto (tgt := 21) (pc := 17) dX9_wants_17 (by decide) ?_
    refine a_putZ (y := 28) (pc := 21) dX9_wants_21 fl_RX9_179 (by decide) s0_275 rfl rfl (tyX9_ok 28 (by decide)) rfl (by decide) ?_
    exact a_vret (pc := 24) dX9_wants_24 rfl rfl (Nat.le_of_ble_eq_true rfl) ⟨rfl, h⟩
  · replace h := h.2 hc1
    refine a_aload_n (pc := 7) dX9_goesOn_7 (by decide) rfl ?_
    refine p_inlV (Ex := _) (As := []) (st := []) (st1 := fun r => [(0, r)])  (pc := 8) dX9_goesOn_8 ml_RX9_183 (by decide) s0_275 rfl (by decide) (Nat.le_of_ble_eq_true rfl) rfl (fun _ => rfl) (by decide) (by decide) (Nat.le_of_ble_eq_true rfl) rfl ?_
    refine a_aload_n (pc := 0) dX9_here_0 (by decide) rfl ?_
    refine a_getI (y := 27) (pc := 1) dX9_here_1 fl_RX9_176 (by decide) s0_275 (Or.inl rfl) rfl ?_
    refine a_aload_n (pc := 4) dX9_here_4 (by decide) rfl ?_
    refine a_getI (y := 26) (pc := 5) dX9_here_5 fl_RX9_173 (by decide) s0_275 (Or.inl rfl) rfl ?_
    refine a_icmp_ge (tgt := 23) (pc := 8) dX9_here_8 (by decide) (fun hc3 => ?_) (fun hc3 => ?_)
    · replace h := h.1 hc3
      refine a_iconst (pc := 23) dX9_here_23 (by decide) ?_
      refine a_ireti (pc := 24) dX9_here_24 rfl rfl (Nat.le_of_ble_eq_true rfl) ⟨rfl, ?_⟩
      refine a_iload_n (pc := 11) dX9_goesOn_11 rfl ?_
      refine a_icmp_ne (tgt := 19) (pc := 12) dX9_goesOn_12 (by decide) (fun hc4 => ?_) (fun hc4 => ?_)
      · replace h := h.1 hc4
        refine a_iconst (pc := 19) dX9_goesOn_19 (by decide) ?_
        refine a_istore_n (ls1 := [(2, 275), (0, l1), (0, 0)]) (pc := 20) dX9_goesOn_20 (by decide) (hp1 (t := 0) rfl (by decide)) rfl ?_
        refine a_aload_n (pc := 21) dX9_goesOn_21 (by decide) rfl ?_
        refine a_dup (pc := 22) dX9_goesOn_22 n21 ?_
        refine a_getI (y := 27) (pc := 23) dX9_goesOn_23 fl_RX9_176 (by decide) s0_275 (Or.inl rfl) rfl ?_
        refine a_iload_n (pc := 26) dX9_goesOn_26 rfl ?_
        refine a_if_eq (tgt := 34) (pc := 27) dX9_goesOn_27 (by decide) (fun _ => ?_) (fun hc => absurd (by decide) hc)
        refine a_iconst (pc := 34) dX9_goesOn_34 (by decide) ?_
        have ho5 := h.1
        replace h := h.2
        refine a_iadd (pc := 35) dX9_goesOn_35 ho5 ?_
        refine a_putI (y := 27) (pc := 36) dX9_goesOn_36 fl_RX9_176 (by decide) s0_275 rfl rfl (tyX9_ok 27 (by decide)) rfl ?_
        refine a_iload_n (pc := 39) dX9_goesOn_39 rfl ?_
        refine a_iretz (pc := 40) dX9_goesOn_40 rfl rfl (Nat.le_of_ble_eq_true rfl) (by decide) ⟨rfl, ?_⟩
        refine a_if_eq (tgt := 16) (pc := 6) dX9_wants_6 (by decide) (fun _ => ?_) (fun hc => absurd (by decide) hc)
        refine a_iconst (pc := 16) dX9_wants_16 (by decide) ?_
        refine a_goto (tgt := 21) (pc := 17) dX9_wants_17 (by decide) ?_
        refine a_putZ (y := 28) (pc := 21) dX9_wants_21 fl_RX9_179 (by decide) s0_275 rfl rfl (tyX9_ok 28 (by decide)) rfl (by decide) ?_
        exact a_vret (pc := 24) dX9_wants_24 rfl rfl (Nat.le_of_ble_eq_true rfl) ⟨rfl, h⟩
      · replace h := h.2 hc4
        refine a_iconst (pc := 15) dX9_goesOn_15 (by decide) ?_
        refine a_goto (tgt := 20) (pc := 16) dX9_goesOn_16 (by decide) ?_
        refine a_istore_n (ls1 := [(2, 275), (0, l1), (0, 1)]) (pc := 20) dX9_goesOn_20 (by decide) (hp1 (t := 0) rfl (by decide)) rfl ?_
        refine a_aload_n (pc := 21) dX9_goesOn_21 (by decide) rfl ?_
        refine a_dup (pc := 22) dX9_goesOn_22 n21 ?_
        refine a_getI (y := 27) (pc := 23) dX9_goesOn_23 fl_RX9_176 (by decide) s0_275 (Or.inl rfl) rfl ?_
        refine a_iload_n (pc := 26) dX9_goesOn_26 rfl ?_
        refine a_if_eq (tgt := 34) (pc := 27) dX9_goesOn_27 (by decide) (fun hc => absurd hc (by decide)) (fun _ => ?_)
        refine a_iconst (pc := 30) dX9_goesOn_30 (by decide) ?_
        refine a_goto (tgt := 35) (pc := 31) dX9_goesOn_31 (by decide) ?_
        have ho6 := h.1
        replace h := h.2
        refine a_iadd (pc := 35) dX9_goesOn_35 ho6 ?_
        refine a_putI (y := 27) (pc := 36) dX9_goesOn_36 fl_RX9_176 (by decide) s0_275 rfl rfl (tyX9_ok 27 (by decide)) rfl ?_
        refine a_iload_n (pc := 39) dX9_goesOn_39 rfl ?_
        refine a_iretz (pc := 40) dX9_goesOn_40 rfl rfl (Nat.le_of_ble_eq_true rfl) (by decide) ⟨rfl, ?_⟩
        refine a_if_eq (tgt := 16) (pc := 6) dX9_wants_6 (by decide) (fun hc => absurd hc (by decide)) (fun _ => ?_)
        refine a_aload_n (pc := 9) dX9_wants_9 (by decide) rfl ?_
        refine a_getI (y := 28) (pc := 10) dX9_wants_10 fl_RX9_179 (by decide) s0_275 (Or.inr rfl) rfl ?_
        refine a_eq (y := M 275 28) rfl ?_
        refine a_if_eq (tgt := 20) (pc := 13) dX9_wants_13 (by decide) (fun _ => ?_) (fun hc => absurd hc1 hc)
        refine a_iconst (pc := 20) dX9_wants_20 (by decide) ?_
        refine a_putZ (y := 28) (pc := 21) dX9_wants_21 fl_RX9_179 (by decide) s0_275 rfl rfl (tyX9_ok 28 (by decide)) rfl (by decide) ?_
        exact a_vret (pc := 24) dX9_wants_24 rfl rfl (Nat.le_of_ble_eq_true rfl) ⟨rfl, h⟩
    · replace h := h.2 hc3
      refine a_aload_n (pc := 11) dX9_here_11 (by decide) rfl ?_
      refine a_getR (y := 292) (pc := 12) dX9_here_12 fl_RX9_65 (by decide) s0_275 rfl rfl ?_
      refine a_aload_n (pc := 15) dX9_here_15 (by decide) rfl ?_
      refine a_getI (y := 27) (pc := 16) dX9_here_16 fl_RX9_176 (by decide) s0_275 (Or.inl rfl) rfl ?_
      have ho7 := h.1
      replace h := h.2
      refine a_iald (pc := 19) dX9_here_19 (by decide) s0_292 ho7.1 ho7.2 ?_
      refine a_goto (tgt := 24) (pc := 20) dX9_here_20 (by decide) ?_
      refine a_ireti (pc := 24) dX9_here_24 rfl rfl (Nat.le_of_ble_eq_true rfl) ⟨rfl, ?_⟩
      refine a_iload_n (pc := 11) dX9_goesOn_11 rfl ?_
      refine a_icmp_ne (tgt := 19) (pc := 12) dX9_goesOn_12 (by decide) (fun hc8 => ?_) (fun hc8 => ?_)
      · replace h := h.1 hc8
        refine a_iconst (pc := 19) dX9_goesOn_19 (by decide) ?_
        refine a_istore_n (ls1 := [(2, 275), (0, l1), (0, 0)]) (pc := 20) dX9_goesOn_20 (by decide) (hp1 (t := 0) rfl (by decide)) rfl ?_
        refine a_aload_n (pc := 21) dX9_goesOn_21 (by decide) rfl ?_
        refine a_dup (pc := 22) dX9_goesOn_22 n21 ?_
        refine a_getI (y := 27) (pc := 23) dX9_goesOn_23 fl_RX9_176 (by decide) s0_275 (Or.inl rfl) rfl ?_
        refine a_iload_n (pc := 26) dX9_goesOn_26 rfl ?_
        refine a_if_eq (tgt := 34) (pc := 27) dX9_goesOn_27 (by decide) (fun _ => ?_) (fun hc => absurd (by decide) hc)
        refine a_iconst (pc := 34) dX9_goesOn_34 (by decide) ?_
        have ho9 := h.1
        replace h := h.2
        refine a_iadd (pc := 35) dX9_goesOn_35 ho9 ?_
        refine a_putI (y := 27) (pc := 36) dX9_goesOn_36 fl_RX9_176 (by decide) s0_275 rfl rfl (tyX9_ok 27 (by decide)) rfl ?_
        refine a_iload_n (pc := 39) dX9_goesOn_39 rfl ?_
        refine a_iretz (pc := 40) dX9_goesOn_40 rfl rfl (Nat.le_of_ble_eq_true rfl) (by decide) ⟨rfl, ?_⟩
        refine a_if_eq (tgt := 16) (pc := 6) dX9_wants_6 (by decide) (fun _ => ?_) (fun hc => absurd (by decide) hc)
        refine a_iconst (pc := 16) dX9_wants_16 (by decide) ?_
        refine a_goto (tgt := 21) (pc := 17) dX9_wants_17 (by decide) ?_
        refine a_putZ (y := 28) (pc := 21) dX9_wants_21 fl_RX9_179 (by decide) s0_275 rfl rfl (tyX9_ok 28 (by decide)) rfl (by decide) ?_
        exact a_vret (pc := 24) dX9_wants_24 rfl rfl (Nat.le_of_ble_eq_true rfl) ⟨rfl, h⟩
      · replace h := h.2 hc8
        refine a_iconst (pc := 15) dX9_goesOn_15 (by decide) ?_
        refine a_goto (tgt := 20) (pc := 16) dX9_goesOn_16 (by decide) ?_
        refine a_istore_n (ls1 := [(2, 275), (0, l1), (0, 1)]) (pc := 20) dX9_goesOn_20 (by decide) (hp1 (t := 0) rfl (by decide)) rfl ?_
        refine a_aload_n (pc := 21) dX9_goesOn_21 (by decide) rfl ?_
        refine a_dup (pc := 22) dX9_goesOn_22 n21 ?_
        refine a_getI (y := 27) (pc := 23) dX9_goesOn_23 fl_RX9_176 (by decide) s0_275 (Or.inl rfl) rfl ?_
        refine a_iload_n (pc := 26) dX9_goesOn_26 rfl ?_
        refine a_if_eq (tgt := 34) (pc := 27) dX9_goesOn_27 (by decide) (fun hc => absurd hc (by decide)) (fun _ => ?_)
        refine a_iconst (pc := 30) dX9_goesOn_30 (by decide) ?_
        refine a_goto (tgt := 35) (pc := 31) dX9_goesOn_31 (by decide) ?_
        have ho10 := h.1
        replace h := h.2
        refine a_iadd (pc := 35) dX9_goesOn_35 ho10 ?_
        refine a_putI (y := 27) (pc := 36) dX9_goesOn_36 fl_RX9_176 (by decide) s0_275 rfl rfl (tyX9_ok 27 (by decide)) rfl ?_
        refine a_iload_n (pc := 39) dX9_goesOn_39 rfl ?_
        refine a_iretz (pc := 40) dX9_goesOn_40 rfl rfl (Nat.le_of_ble_eq_true rfl) (by decide) ⟨rfl, ?_⟩
        refine a_if_eq (tgt := 16) (pc := 6) dX9_wants_6 (by decide) (fun hc => absurd hc (by decide)) (fun _ => ?_)
        refine a_aload_n (pc := 9) dX9_wants_9 (by decide) rfl ?_
        refine a_getI (y := 28) (pc := 10) dX9_wants_10 fl_RX9_179 (by decide) s0_275 (Or.inr rfl) rfl ?_
        refine a_eq (y := M 275 28) rfl ?_
        refine a_if_eq (tgt := 20) (pc := 13) dX9_wants_13 (by decide) (fun _ => ?_) (fun hc => absurd hc1 hc)
        refine a_iconst (pc := 20) dX9_wants_20 (by decide) ?_
        refine a_putZ (y := 28) (pc := 21) dX9_wants_21 fl_RX9_179 (by decide) s0_275 rfl rfl (tyX9_ok 28 (by decide)) rfl (by decide) ?_
        exact a_vret (pc := 24) dX9_wants_24 rfl rfl (Nat.le_of_ble_eq_true rfl) ⟨rfl, h⟩
theorem E_R_wants {l1 : Int} {M : Mem} {Q : Int → Mem → Prop} (h : AW mX9_wants 0 [(2, 275), (0, l1)] M Q) : Calls mX9_wants [(2, 275), (0, l1)] S0 M Q := calls_of (by decide) (by decide) (Nat.le_of_ble_eq_true rfl) rfl h
set_option maxRecDepth 100000 in
set_option maxHeartbeats 4000000 in
theorem B_R_writesLeg_0 {l1 : Int} {M : Mem} {Q : Int → Mem → Prop} (h : ((0 : Int) ≤ l1 ∧ l1 < 16) ∧ ((0 ≤ (M 285 l1) → ((0 : Int) ≤ M 275 37 ∧ M 275 37 < 200) ∧ (-2147483648 ≤ (M 275 37) + 1 ∧ (M 275 37) + 1 ≤ 2147483647) ∧ Calls mX9_writesNumber [(2, 275), (0, M 285 l1)] S0 (up2 (up2 M 295 (M 275 37) 76) 275 37 ((M 275 37) + 1)) (fun r5 M6 => ((0 : Int) ≤ M6 275 37 ∧ M6 275 37 < 200) ∧ (-2147483648 ≤ (M6 275 37) + 1 ∧ (M6 275 37) + 1 ≤ 2147483647) ∧ Calls mX9_writesNumber [(2, 275), (0, M6 286 l1)] S0 (up2 (up2 M6 295 (M6 275 37) 46) 275 37 ((M6 275 37) + 1)) (fun r9 M10 => ((0 : Int) ≤ M10 275 37 ∧ M10 275 37 < 200) ∧ (-2147483648 ≤ (M10 275 37) + 1 ∧ (M10 275 37) + 1 ≤ 2147483647) ∧ Calls mX9_writesNumber [(2, 275), (0, M10 287 l1)] S0 (up2 (up2 M10 295 (M10 275 37) 58) 275 37 ((M10 275 37) + 1)) (fun r13 M14 => ((0 : Int) ≤ M14 275 37 ∧ M14 275 37 < 200) ∧ (-2147483648 ≤ (M14 275 37) + 1 ∧ (M14 275 37) + 1 ≤ 2147483647) ∧ Calls mX9_writesNumber [(2, 275), (0, M14 288 l1)] S0 (up2 (up2 M14 295 (M14 275 37) 62) 275 37 ((M14 275 37) + 1)) (fun r17 M18 => Q 0 M18))))) ∧ (¬ (0 ≤ (M 285 l1)) → ((0 : Int) ≤ M 275 37 ∧ M 275 37 < 200) ∧ (-2147483648 ≤ (M 275 37) + 1 ∧ (M 275 37) + 1 ≤ 2147483647) ∧ ((0 : Int) ≤ (M 275 37) + 1 ∧ (M 275 37) + 1 < 200) ∧ (-2147483648 ≤ ((M 275 37) + 1) + 1 ∧ ((M 275 37) + 1) + 1 ≤ 2147483647) ∧ Calls mX9_writesNumber [(2, 275), (0, M 287 l1)] S0 (up2 (up2 (up2 (up2 M 295 (M 275 37) 87) 275 37 ((M 275 37) + 1)) 295 ((M 275 37) + 1) 58) 275 37 (((M 275 37) + 1) + 1)) (fun r23 M24 => ((0 : Int) ≤ M24 275 37 ∧ M24 275 37 < 200) ∧ (-2147483648 ≤ (M24 275 37) + 1 ∧ (M24 275 37) + 1 ≤ 2147483647) ∧ Calls mX9_writesNumber [(2, 275), (0, M24 288 l1)] S0 (up2 (up2 M24 295 (M24 275 37) 62) 275 37 ((M24 275 37) + 1)) (fun r27 M28 => Q 0 M28))))) : AW mX9_writesLeg 0 [(2, 275), (0, l1)] M Q := by
  refine a_aload_n (pc := 0) dX9_writesLeg_0 (by decide) rfl ?_
  refine a_getR (y := 285) (pc := 1) dX9_writesLeg_1 fl_RX9_44 (by decide) s0_275 rfl rfl ?_
  refine a_iload_n (pc := 4) dX9_writesLeg_4 rfl ?_
  have ho1 := h.1
  replace h := h.2
  refine a_iald (pc := 5) dX9_writesLeg_5 (by decide) s0_285 ho1.1 ho1.2 ?_
  refine a_if_ge (tgt := 18) (pc := 6) dX9_writesLeg_6 (by decide) (fun hc2 => ?_) (fun hc2 => ?_)
  · replace h := h.1 hc2
    refine a_aload_n (pc := 18) dX9_writesLeg_18 (by decide) rfl ?_
    refine a_bipush (pc := 19) dX9_writesLeg_19 (by decide) (by decide +kernel) ?_
    refine p_inlV (Ex := _) (As := [(0, 76)]) (st := []) (st1 := fun r => [])  (pc := 21) dX9_writesLeg_21 ml_RX9_324 (by decide) s0_275 rfl (by decide) (Nat.le_of_ble_eq_true rfl) rfl (fun _ => rfl) (by decide) (by decide) (Nat.le_of_ble_eq_true rfl) rfl ?_
    refine a_aload_n (pc := 0) dX9_writes_0 (by decide) rfl ?_
    refine a_getR (y := 295) (pc := 1) dX9_writes_1 fl_RX9_74 (by decide) s0_275 rfl rfl ?_
    refine a_aload_n (pc := 4) dX9_writes_4 (by decide) rfl ?_
    refine a_getI (y := 37) (pc := 5) dX9_writes_5 fl_RX9_321 (by decide) s0_275 (Or.inl rfl) rfl ?_
    refine a_iload_n (pc := 8) dX9_writes_8 rfl ?_
    have ho3 := h.1
    replace h := h.2
    refine a_iast (pc := 9) dX9_writes_9 (by decide) s0_295 ho3.1 ho3.2 ?_
    refine a_aload_n (pc := 10) dX9_writes_10 (by decide) rfl ?_
    refine a_dup (pc := 11) dX9_writes_11 n21 ?_
    refine a_getI (y := 37) (pc := 12) dX9_writes_12 fl_RX9_321 (by decide) s0_275 (Or.inl rfl) rfl ?_
    refine a_eq (y := M 275 37) rfl ?_
    refine a_iconst (pc := 15) dX9_writes_15 (by decide) ?_
    have ho4 := h.1
    replace h := h.2
    refine a_iadd (pc := 16) dX9_writes_16 ho4 ?_
    refine a_putI (y := 37) (pc := 17) dX9_writes_17 fl_RX9_321 (by decide) s0_275 rfl rfl (tyX9_ok 37 (by decide)) rfl ?_
    refine a_vret (pc := 20) dX9_writes_20 rfl rfl (Nat.le_of_ble_eq_true rfl) ⟨rfl, ?_⟩
    refine a_aload_n (pc := 24) dX9_writesLeg_24 (by decide) rfl ?_
    refine a_aload_n (pc := 25) dX9_writesLeg_25 (by decide) rfl ?_
    refine a_getR (y := 285) (pc := 26) dX9_writesLeg_26 fl_RX9_44 (by decide) s0_275 rfl rfl ?_
    refine a_iload_n (pc := 29) dX9_writesLeg_29 rfl ?_
    refine a_iald (pc := 30) dX9_writesLeg_30 (by decide) s0_285 ho1.1 ho1.2 ?_
    refine a_eq (y := M 285 l1) rfl ?_
    refine p_callV (As := [(0, M 285 l1)]) (st := []) (st1 := fun r => [])  (pc := 31) dX9_writesLeg_31 ml_RX9_327 (by decide) s0_275 rfl (by decide) (Nat.le_of_ble_eq_true rfl) rfl (fun _ => rfl) h (fun r5 M6 h => ?_)
    refine a_aload_n (pc := 34) dX9_writesLeg_34 (by decide) rfl ?_
    refine a_bipush (pc := 35) dX9_writesLeg_35 (by decide) (by decide +kernel) ?_
    refine p_inlV (Ex := _) (As := [(0, 46)]) (st := []) (st1 := fun r => [])  (pc := 37) dX9_writesLeg_37 ml_RX9_324 (by decide) s0_275 rfl (by decide) (Nat.le_of_ble_eq_true rfl) rfl (fun _ => rfl) (by decide) (by decide) (Nat.le_of_ble_eq_true rfl) rfl ?_
    refine a_aload_n (pc := 0) dX9_writes_0 (by decide) rfl ?_
    refine a_getR (y := 295) (pc := 1) dX9_writes_1 fl_RX9_74 (by decide) s0_275 rfl rfl ?_
    refine a_aload_n (pc := 4) dX9_writes_4 (by decide) rfl ?_
    refine a_getI (y := 37) (pc := 5) dX9_writes_5 fl_RX9_321 (by decide) s0_275 (Or.inl rfl) rfl ?_
    refine a_iload_n (pc := 8) dX9_writes_8 rfl ?_
    have ho7 := h.1
    replace h := h.2
    refine a_iast (pc := 9) dX9_writes_9 (by decide) s0_295 ho7.1 ho7.2 ?_
    refine a_aload_n (pc := 10) dX9_writes_10 (by decide) rfl ?_
    refine a_dup (pc := 11) dX9_writes_11 n21 ?_
    refine a_getI (y := 37) (pc := 12) dX9_writes_12 fl_RX9_321 (by decide) s0_275 (Or.inl rfl) rfl ?_
    refine a_eq (y := M6 275 37) rfl ?_
    refine a_iconst (pc := 15) dX9_writes_15 (by decide) ?_
    have ho8 := h.1
    replace h := h.2
    refine a_iadd (pc := 16) dX9_writes_16 ho8 ?_
    refine a_putI (y := 37) (pc := 17) dX9_writes_17 fl_RX9_321 (by decide) s0_275 rfl rfl (tyX9_ok 37 (by decide)) rfl ?_
    refine a_vret (pc := 20) dX9_writes_20 rfl rfl (Nat.le_of_ble_eq_true rfl) ⟨rfl, ?_⟩
    refine a_aload_n (pc := 40) dX9_writesLeg_40 (by decide) rfl ?_
    refine a_aload_n (pc := 41) dX9_writesLeg_41 (by decide) rfl ?_
    refine a_getR (y := 286) (pc := 42) dX9_writesLeg_42 fl_RX9_47 (by decide) s0_275 rfl rfl ?_
    refine a_iload_n (pc := 45) dX9_writesLeg_45 rfl ?_
    refine a_iald (pc := 46) dX9_writesLeg_46 (by decide) s0_286 ho1.1 ho1.2 ?_
    refine a_eq (y := M6 286 l1) rfl ?_
    refine p_callV (As := [(0, M6 286 l1)]) (st := []) (st1 := fun r => [])  (pc := 47) dX9_writesLeg_47 ml_RX9_327 (by decide) s0_275 rfl (by decide) (Nat.le_of_ble_eq_true rfl) rfl (fun _ => rfl) h (fun r9 M10 h => ?_)
    refine a_aload_n (pc := 50) dX9_writesLeg_50 (by decide) rfl ?_
    refine a_bipush (pc := 51) dX9_writesLeg_51 (by decide) (by decide +kernel) ?_
    refine p_inlV (Ex := _) (As := [(0, 58)]) (st := []) (st1 := fun r => [])  (pc := 53) dX9_writesLeg_53 ml_RX9_324 (by decide) s0_275 rfl (by decide) (Nat.le_of_ble_eq_true rfl) rfl (fun _ => rfl) (by decide) (by decide) (Nat.le_of_ble_eq_true rfl) rfl ?_
    refine a_aload_n (pc := 0) dX9_writes_0 (by decide) rfl ?_
    refine a_getR (y := 295) (pc := 1) dX9_writes_1 fl_RX9_74 (by decide) s0_275 rfl rfl ?_
    refine a_aload_n (pc := 4) dX9_writes_4 (by decide) rfl ?_
    refine a_getI (y := 37) (pc := 5) dX9_writes_5 fl_RX9_321 (by decide) s0_275 (Or.inl rfl) rfl ?_
    refine a_iload_n (pc := 8) dX9_writes_8 rfl ?_
    have ho11 := h.1
    replace h := h.2
    refine a_iast (pc := 9) dX9_writes_9 (by decide) s0_295 ho11.1 ho11.2 ?_
    refine a_aload_n (pc := 10) dX9_writes_10 (by decide) rfl ?_
    refine a_dup (pc := 11) dX9_writes_11 n21 ?_
    refine a_getI (y := 37) (pc := 12) dX9_writes_12 fl_RX9_321 (by decide) s0_275 (Or.inl rfl) rfl ?_
    refine a_eq (y := M10 275 37) rfl ?_
    refine a_iconst (pc := 15) dX9_writes_15 (by decide) ?_
    have ho12 := h.1
    replace h := h.2
    refine a_iadd (pc := 16) dX9_writes_16 ho12 ?_
    refine a_putI (y := 37) (pc := 17) dX9_writes_17 fl_RX9_321 (by decide) s0_275 rfl rfl (tyX9_ok 37 (by decide)) rfl ?_
    refine a_vret (pc := 20) dX9_writes_20 rfl rfl (Nat.le_of_ble_eq_true rfl) ⟨rfl, ?_⟩
    refine a_aload_n (pc := 56) dX9_writesLeg_56 (by decide) rfl ?_
    refine a_aload_n (pc := 57) dX9_writesLeg_57 (by decide) rfl ?_
    refine a_getR (y := 287) (pc := 58) dX9_writesLeg_58 fl_RX9_50 (by decide) s0_275 rfl rfl ?_
    refine a_iload_n (pc := 61) dX9_writesLeg_61 rfl ?_
    refine a_iald (pc := 62) dX9_writesLeg_62 (by decide) s0_287 ho1.1 ho1.2 ?_
    refine a_eq (y := M10 287 l1) rfl ?_
    refine p_callV (As := [(0, M10 287 l1)]) (st := []) (st1 := fun r => [])  (pc := 63) dX9_writesLeg_63 ml_RX9_327 (by decide) s0_275 rfl (by decide) (Nat.le_of_ble_eq_true rfl) rfl (fun _ => rfl) h (fun r13 M14 h => ?_)
    refine a_aload_n (pc := 66) dX9_writesLeg_66 (by decide) rfl ?_
    refine a_bipush (pc := 67) dX9_writesLeg_67 (by decide) (by decide +kernel) ?_
    refine p_inlV (Ex := _) (As := [(0, 62)]) (st := []) (st1 := fun r => [])  (pc := 69) dX9_writesLeg_69 ml_RX9_324 (by decide) s0_275 rfl (by decide) (Nat.le_of_ble_eq_true rfl) rfl (fun _ => rfl) (by decide) (by decide) (Nat.le_of_ble_eq_true rfl) rfl ?_
    refine a_aload_n (pc := 0) dX9_writes_0 (by decide) rfl ?_
    refine a_getR (y := 295) (pc := 1) dX9_writes_1 fl_RX9_74 (by decide) s0_275 rfl rfl ?_
    refine a_aload_n (pc := 4) dX9_writes_4 (by decide) rfl ?_
    refine a_getI (y := 37) (pc := 5) dX9_writes_5 fl_RX9_321 (by decide) s0_275 (Or.inl rfl) rfl ?_
    refine a_iload_n (pc := 8) dX9_writes_8 rfl ?_
    have ho15 := h.1
    replace h := h.2
    refine a_iast (pc := 9) dX9_writes_9 (by decide) s0_295 ho15.1 ho15.2 ?_
    refine a_aload_n (pc := 10) dX9_writes_10 (by decide) rfl ?_
    refine a_dup (pc := 11) dX9_writes_11 n21 ?_
    refine a_getI (y := 37) (pc := 12) dX9_writes_12 fl_RX9_321 (by decide) s0_275 (Or.inl rfl) rfl ?_
    refine a_eq (y := M14 275 37) rfl ?_
    refine a_iconst (pc := 15) dX9_writes_15 (by decide) ?_
    have ho16 := h.1
    replace h := h.2
    refine a_iadd (pc := 16) dX9_writes_16 ho16 ?_
    refine a_putI (y := 37) (pc := 17) dX9_writes_17 fl_RX9_321 (by decide) s0_275 rfl rfl (tyX9_ok 37 (by decide)) rfl ?_
    refine a_vret (pc := 20) dX9_writes_20 rfl rfl (Nat.le_of_ble_eq_true rfl) ⟨rfl, ?_⟩
    refine a_aload_n (pc := 72) dX9_writesLeg_72 (by decide) rfl ?_
    refine a_aload_n (pc := 73) dX9_writesLeg_73 (by decide) rfl ?_
    refine a_getR (y := 288) (pc := 74) dX9_writesLeg_74 fl_RX9_53 (by decide) s0_275 rfl rfl ?_
    refine a_iload_n (pc := 77) dX9_writesLeg_77 rfl ?_
    refine a_iald (pc := 78) dX9_writesLeg_78 (by decide) s0_288 ho1.1 ho1.2 ?_
    refine a_eq (y := M14 288 l1) rfl ?_
    refine p_callV (As := [(0, M14 288 l1)]) (st := []) (st1 := fun r => [])  (pc := 79) dX9_writesLeg_79 ml_RX9_327 (by decide) s0_275 rfl (by decide) (Nat.le_of_ble_eq_true rfl) rfl (fun _ => rfl) h (fun r17 M18 h => ?_)
    exact a_vret (pc := 82) dX9_writesLeg_82 rfl rfl (Nat.le_of_ble_eq_true rfl) ⟨rfl, h⟩
  · replace h := h.2 hc2
    refine a_aload_n (pc := 9) dX9_writesLeg_9 (by decide) rfl ?_
    refine a_bipush (pc := 10) dX9_writesLeg_10 (by decide) (by decide +kernel) ?_
    refine p_inlV (Ex := _) (As := [(0, 87)]) (st := []) (st1 := fun r => [])  (pc := 12) dX9_writesLeg_12 ml_RX9_324 (by decide) s0_275 rfl (by decide) (Nat.le_of_ble_eq_true rfl) rfl (fun _ => rfl) (by decide) (by decide) (Nat.le_of_ble_eq_true rfl) rfl ?_
    refine a_aload_n (pc := 0) dX9_writes_0 (by decide) rfl ?_
    refine a_getR (y := 295) (pc := 1) dX9_writes_1 fl_RX9_74 (by decide) s0_275 rfl rfl ?_
    refine a_aload_n (pc := 4) dX9_writes_4 (by decide) rfl ?_
    refine a_getI (y := 37) (pc := 5) dX9_writes_5 fl_RX9_321 (by decide) s0_275 (Or.inl rfl) rfl ?_
    refine a_iload_n (pc := 8) dX9_writes_8 rfl ?_
    have ho19 := h.1
    replace h := h.2
    refine a_iast (pc := 9) dX9_writes_9 (by decide) s0_295 ho19.1 ho19.2 ?_
    refine a_aload_n (pc := 10) dX9_writes_10 (by decide) rfl ?_
    refine a_dup (pc := 11) dX9_writes_11 n21 ?_
    refine a_getI (y := 37) (pc := 12) dX9_writes_12 fl_RX9_321 (by decide) s0_275 (Or.inl rfl) rfl ?_
    refine a_eq (y := M 275 37) rfl ?_
    refine a_iconst (pc := 15) dX9_writes_15 (by decide) ?_
    have ho20 := h.1
    replace h := h.2
    refine a_iadd (pc := 16) dX9_writes_16 ho20 ?_
    refine a_putI (y := 37) (pc := 17) dX9_writes_17 fl_RX9_321 (by decide) s0_275 rfl rfl (tyX9_ok 37 (by decide)) rfl ?_
    refine a_vret (pc := 20) dX9_writes_20 rfl rfl (Nat.le_of_ble_eq_true rfl) ⟨rfl, ?_⟩
    refine a_goto (tgt := 50) (pc := 15) dX9_writesLeg_15 (by decide) ?_
    refine a_aload_n (pc := 50) dX9_writesLeg_50 (by decide) rfl ?_
    refine a_bipush (pc := 51) dX9_writesLeg_51 (by decide) (by decide +kernel) ?_
    refine p_inlV (Ex := _) (As := [(0, 58)]) (st := []) (st1 := fun r => [])  (pc := 53) dX9_writesLeg_53 ml_RX9_324 (by decide) s0_275 rfl (by decide) (Nat.le_of_ble_eq_true rfl) rfl (fun _ => rfl) (by decide) (by decide) (Nat.le_of_ble_eq_true rfl) rfl ?_
    refine a_aload_n (pc := 0) dX9_writes_0 (by decide) rfl ?_
    refine a_getR (y := 295) (pc := 1) dX9_writes_1 fl_RX9_74 (by decide) s0_275 rfl rfl ?_
    refine a_aload_n (pc := 4) dX9_writes_4 (by decide) rfl ?_
    refine a_getI (y := 37) (pc := 5) dX9_writes_5 fl_RX9_321 (by decide) s0_275 (Or.inl rfl) rfl ?_
    refine a_eq (y := (M 275 37) + 1) rfl ?_
    refine a_iload_n (pc := 8) dX9_writes_8 rfl ?_
    have ho21 := h.1
    replace h := h.2
    refine a_iast (pc := 9) dX9_writes_9 (by decide) s0_295 ho21.1 ho21.2 ?_
    refine a_aload_n (pc := 10) dX9_writes_10 (by decide) rfl ?_
    refine a_dup (pc := 11) dX9_writes_11 n21 ?_
    refine a_getI (y := 37) (pc := 12) dX9_writes_12 fl_RX9_321 (by decide) s0_275 (Or.inl rfl) rfl ?_
    refine a_eq (y := (M 275 37) + 1) rfl ?_
    refine a_iconst (pc := 15) dX9_writes_15 (by decide) ?_
    have ho22 := h.1
    replace h := h.2
    refine a_iadd (pc := 16) dX9_writes_16 ho22 ?_
    refine a_putI (y := 37) (pc := 17) dX9_writes_17 fl_RX9_321 (by decide) s0_275 rfl rfl (tyX9_ok 37 (by decide)) rfl ?_
    refine a_vret (pc := 20) dX9_writes_20 rfl rfl (Nat.le_of_ble_eq_true rfl) ⟨rfl, ?_⟩
    refine a_aload_n (pc := 56) dX9_writesLeg_56 (by decide) rfl ?_
    refine a_aload_n (pc := 57) dX9_writesLeg_57 (by decide) rfl ?_
    refine a_getR (y := 287) (pc := 58) dX9_writesLeg_58 fl_RX9_50 (by decide) s0_275 rfl rfl ?_
    refine a_iload_n (pc := 61) dX9_writesLeg_61 rfl ?_
    refine a_iald (pc := 62) dX9_writesLeg_62 (by decide) s0_287 ho1.1 ho1.2 ?_
    refine a_eq (y := M 287 l1) rfl ?_
    refine p_callV (As := [(0, M 287 l1)]) (st := []) (st1 := fun r => [])  (pc := 63) dX9_writesLeg_63 ml_RX9_327 (by decide) s0_275 rfl (by decide) (Nat.le_of_ble_eq_true rfl) rfl (fun _ => rfl) h (fun r23 M24 h => ?_)
    refine a_aload_n (pc := 66) dX9_writesLeg_66 (by decide) rfl ?_
    refine a_bipush (pc := 67) dX9_writesLeg_67 (by decide) (by decide +kernel) ?_
    refine p_inlV (Ex := _) (As := [(0, 62)]) (st := []) (st1 := fun r => [])  (pc := 69) dX9_writesLeg_69 ml_RX9_324 (by decide) s0_275 rfl (by decide) (Nat.le_of_ble_eq_true rfl) rfl (fun _ => rfl) (by decide) (by decide) (Nat.le_of_ble_eq_true rfl) rfl ?_
    refine a_aload_n (pc := 0) dX9_writes_0 (by decide) rfl ?_
    refine a_getR (y := 295) (pc := 1) dX9_writes_1 fl_RX9_74 (by decide) s0_275 rfl rfl ?_
    refine a_aload_n (pc := 4) dX9_writes_4 (by decide) rfl ?_
    refine a_getI (y := 37) (pc := 5) dX9_writes_5 fl_RX9_321 (by decide) s0_275 (Or.inl rfl) rfl ?_
    refine a_iload_n (pc := 8) dX9_writes_8 rfl ?_
    have ho25 := h.1
    replace h := h.2
    refine a_iast (pc := 9) dX9_writes_9 (by decide) s0_295 ho25.1 ho25.2 ?_
    refine a_aload_n (pc := 10) dX9_writes_10 (by decide) rfl ?_
    refine a_dup (pc := 11) dX9_writes_11 n21 ?_
    refine a_getI (y := 37) (pc := 12) dX9_writes_12 fl_RX9_321 (by decide) s0_275 (Or.inl rfl) rfl ?_
    refine a_eq (y := M24 275 37) rfl ?_
    refine a_iconst (pc := 15) dX9_writes_15 (by decide) ?_
    have ho26 := h.1
    replace h := h.2
    refine a_iadd (pc := 16) dX9_writes_16 ho26 ?_
    refine a_putI (y := 37) (pc := 17) dX9_writes_17 fl_RX9_321 (by decide) s0_275 rfl rfl (tyX9_ok 37 (by decide)) rfl ?_
    refine a_vret (pc := 20) dX9_writes_20 rfl rfl (Nat.le_of_ble_eq_true rfl) ⟨rfl, ?_⟩
    refine a_aload_n (pc := 72) dX9_writesLeg_72 (by decide) rfl ?_
    refine a_aload_n (pc := 73) dX9_writesLeg_73 (by decide) rfl ?_
    refine a_getR (y := 288) (pc := 74) dX9_writesLeg_74 fl_RX9_53 (by decide) s0_275 rfl rfl ?_
    refine a_iload_n (pc := 77) dX9_writesLeg_77 rfl ?_
    refine a_iald (pc := 78) dX9_writesLeg_78 (by decide) s0_288 ho1.1 ho1.2 ?_
    refine a_eq (y := M24 288 l1) rfl ?_
    refine p_callV (As := [(0, M24 288 l1)]) (st := []) (st1 := fun r => [])  (pc := 79) dX9_writesLeg_79 ml_RX9_327 (by decide) s0_275 rfl (by decide) (Nat.le_of_ble_eq_true rfl) rfl (fun _ => rfl) h (fun r27 M28 h => ?_)
    exact a_vret (pc := 82) dX9_writesLeg_82 rfl rfl (Nat.le_of_ble_eq_true rfl) ⟨rfl, h⟩
theorem E_R_writesLeg {l1 : Int} {M : Mem} {Q : Int → Mem → Prop} (h : AW mX9_writesLeg 0 [(2, 275), (0, l1)] M Q) : Calls mX9_writesLeg [(2, 275), (0, l1)] S0 M Q := calls_of (by decide) (by decide) (Nat.le_of_ble_eq_true rfl) rfl h
set_option maxRecDepth 100000 in
set_option maxHeartbeats 4000000 in
theorem B_R_runsOf_0 {l1 : Int} {M : Mem} {Q : Int → Mem → Prop} (h : AW mX9_runsOf 4 [(2, 275), (0, l1), (0, 0), (0, 0)] M Q) : AW mX9_runsOf 0 [(2, 275), (0, l1), (9, 0), (9, 0)] M Q := by
  refine a_iconst (pc := 0) dX9_runsOf_0 (by decide) ?_
  refine a_istore_n (ls1 := [(2, 275), (0, l1), (0, 0), (9, 0)]) (pc := 1) dX9_runsOf_1 (by decide) (hp1 (t := 0) rfl (by decide)) rfl ?_
  refine a_iconst (pc := 2) dX9_runsOf_2 (by decide) ?_
  refine a_istore_n (ls1 := [(2, 275), (0, l1), (0, 0), (0, 0)]) (pc := 3) dX9_runsOf_3 (by decide) (hp1 (t := 0) rfl (by decide)) rfl ?_
  exact h
set_option maxRecDepth 100000 in
set_option maxHeartbeats 4000000 in
theorem B_R_runsOf_4 {l1 l2 l3 : Int} {M : Mem} {Q : Int → Mem → Prop} (h : ((0 : Int) ≤ l1 ∧ l1 < 8) ∧ (((M 279 l1) ≤ l3 → Q l2 M) ∧ (¬ ((M 279 l1) ≤ l3) → Calls mX9_isRunning [(2, 275), (0, l1), (0, l3)] S0 M (fun r3 M4 => ((r3 = 0 → (-2147483648 ≤ l2 + 0 ∧ l2 + 0 ≤ 2147483647) ∧ (-2147483648 ≤ l3 + 1 ∧ l3 + 1 ≤ 2147483647) ∧ AW mX9_runsOf 4 [(2, 275), (0, l1), (0, l2 + 0), (0, l3 + 1)] M4 Q) ∧ (¬ r3 = 0 → (-2147483648 ≤ l2 + 1 ∧ l2 + 1 ≤ 2147483647) ∧ (-2147483648 ≤ l3 + 1 ∧ l3 + 1 ≤ 2147483647) ∧ AW mX9_runsOf 4 [(2, 275), (0, l1), (0, l2 + 1), (0, l3 + 1)] M4 Q)))))) : AW mX9_runsOf 4 [(2, 275), (0, l1), (0, l2), (0, l3)] M Q := by
  refine a_iload_n (pc := 4) dX9_runsOf_4 rfl ?_
  refine a_aload_n (pc := 5) dX9_runsOf_5 (by decide) rfl ?_
  refine a_getR (y := 279) (pc := 6) dX9_runsOf_6 fl_RX9_19 (by decide) s0_275 rfl rfl ?_
  refine a_iload_n (pc := 9) dX9_runsOf_9 rfl ?_
  have ho1 := h.1
  replace h := h.2
  refine a_iald (pc := 10) dX9_runsOf_10 (by decide) s0_279 ho1.1 ho1.2 ?_
  refine a_icmp_ge (tgt := 37) (pc := 11) dX9_runsOf_11 (by decide) (fun hc2 => ?_) (fun hc2 => ?_)
  · replace h := h.1 hc2
    refine a_iload_n (pc := 37) dX9_runsOf_37 rfl ?_
    exact a_ireti (pc := 38) dX9_runsOf_38 rfl rfl (Nat.le_of_ble_eq_true rfl) ⟨rfl, h⟩
  · replace h := h.2 hc2
    refine a_iload_n (pc := 14) dX9_runsOf_14 rfl ?_
    refine a_aload_n (pc := 15) dX9_runsOf_15 (by decide) rfl ?_
    refine a_iload_n (pc := 16) dX9_runsOf_16 rfl ?_
    refine a_iload_n (pc := 17) dX9_runsOf_17 rfl ?_
    refine p_callV (As := [(0, l1), (0, l3)]) (st := [(0, l2)]) (st1 := fun r => [(0, r), (0, l2)])  (pc := 18) dX9_runsOf_18 ml_RX9_108 (by decide) s0_275 rfl (by decide) (Nat.le_of_ble_eq_true rfl) rfl (fun _ => rfl) h (fun r3 M4 h => ?_)
    refine a_if_eq (tgt := 28) (pc := 21) dX9_runsOf_21 (by decide) (fun hc5 => ?_) (fun hc5 => ?_)
    · replace h := h.1 hc5
      refine a_iconst (pc := 28) dX9_runsOf_28 (by decide) ?_
      have ho6 := h.1
      replace h := h.2
      refine a_iadd (pc := 29) dX9_runsOf_29 ho6 ?_
      refine a_istore_n (ls1 := [(2, 275), (0, l1), (0, l2 + 0), (0, l3)]) (pc := 30) dX9_runsOf_30 (by decide) (hp1 (t := 0) rfl (by decide)) rfl ?_
      have ho7 := h.1
      replace h := h.2
      refine a_iinc (ls1 := [(2, 275), (0, l1), (0, l2 + 0), (0, l3 + 1)]) (pc := 31) dX9_runsOf_31 rfl (by decide) (hp1 (t := 0) rfl (by decide)) ho7 rfl ?_
      refine a_goto (tgt := 4) (pc := 34) dX9_runsOf_34 (by decide) ?_
      exact h
    · replace h := h.2 hc5
      refine a_iconst (pc := 24) dX9_runsOf_24 (by decide) ?_
      refine a_goto (tgt := 29) (pc := 25) dX9_runsOf_25 (by decide) ?_
      have ho8 := h.1
      replace h := h.2
      refine a_iadd (pc := 29) dX9_runsOf_29 ho8 ?_
      refine a_istore_n (ls1 := [(2, 275), (0, l1), (0, l2 + 1), (0, l3)]) (pc := 30) dX9_runsOf_30 (by decide) (hp1 (t := 0) rfl (by decide)) rfl ?_
      have ho9 := h.1
      replace h := h.2
      refine a_iinc (ls1 := [(2, 275), (0, l1), (0, l2 + 1), (0, l3 + 1)]) (pc := 31) dX9_runsOf_31 rfl (by decide) (hp1 (t := 0) rfl (by decide)) ho9 rfl ?_
      refine a_goto (tgt := 4) (pc := 34) dX9_runsOf_34 (by decide) ?_
      exact h
theorem E_R_runsOf {l1 : Int} {M : Mem} {Q : Int → Mem → Prop} (h : AW mX9_runsOf 0 [(2, 275), (0, l1), (9, 0), (9, 0)] M Q) : Calls mX9_runsOf [(2, 275), (0, l1)] S0 M Q := calls_of (by decide) (by decide) (Nat.le_of_ble_eq_true rfl) rfl h
set_option maxRecDepth 100000 in
set_option maxHeartbeats 4000000 in
theorem B_R_image_0 {M : Mem} {Q : Int → Mem → Prop} (h : Calls mX9_carryAll [(2, 275), (2, 294), (0, 1)] S0 (up2 (up2 M 275 8 0) 275 32 1) (fun r1 M2 => Q (M2 275 0) M2)) : AW mX9_image 0 [(2, 275)] M Q := by
  refine a_aload_n (pc := 0) dX9_image_0 (by decide) rfl ?_
  refine a_iconst (pc := 1) dX9_image_1 (by decide) ?_
  refine a_putI (y := 8) (pc := 2) dX9_image_2 fl_RX9_87 (by decide) s0_275 rfl rfl (tyX9_ok 8 (by decide)) rfl ?_
  refine a_aload_n (pc := 5) dX9_image_5 (by decide) rfl ?_
  refine a_iconst (pc := 6) dX9_image_6 (by decide) ?_
  refine a_putZ (y := 32) (pc := 7) dX9_image_7 fl_RX9_249 (by decide) s0_275 rfl rfl (tyX9_ok 32 (by decide)) rfl (by decide) ?_
  refine a_aload_n (pc := 10) dX9_image_10 (by decide) rfl ?_
  refine a_aload_n (pc := 11) dX9_image_11 (by decide) rfl ?_
  refine a_getR (y := 294) (pc := 12) dX9_image_12 fl_RX9_71 (by decide) s0_275 rfl rfl ?_
  refine a_iconst (pc := 15) dX9_image_15 (by decide) ?_
  refine p_callV (As := [(2, 294), (0, 1)]) (st := []) (st1 := fun r => [])  (pc := 16) dX9_image_16 ml_RX9_230 (by decide) s0_275 rfl (by decide) (Nat.le_of_ble_eq_true rfl) rfl (fun _ => rfl) h (fun r1 M2 h => ?_)
  refine a_aload_n (pc := 19) dX9_image_19 (by decide) rfl ?_
  refine a_getI (y := 0) (pc := 20) dX9_image_20 fl_RX9_98 (by decide) s0_275 (Or.inl rfl) rfl ?_
  exact a_ireti (pc := 23) dX9_image_23 rfl rfl (Nat.le_of_ble_eq_true rfl) ⟨rfl, h⟩
theorem E_R_image {M : Mem} {Q : Int → Mem → Prop} (h : AW mX9_image 0 [(2, 275)] M Q) : Calls mX9_image [(2, 275)] S0 M Q := calls_of (by decide) (by decide) (Nat.le_of_ble_eq_true rfl) rfl h
set_option maxRecDepth 100000 in
set_option maxHeartbeats 4000000 in
theorem B_R_undo_0 {M : Mem} {Q : Int → Mem → Prop} (h : ((¬ (M 275 32) = 0 → Calls mX9_carryAll [(2, 275), (2, 294), (0, 0)] S0 (up2 M 275 8 0) (fun r2 M3 => Q (M3 275 0) M3)) ∧ ((M 275 32) = 0 → Q (-3) (up2 M 275 8 0)))) : AW mX9_undo 0 [(2, 275)] M Q := by
  refine a_aload_n (pc := 0) dX9_undo_0 (by decide) rfl ?_
  refine a_iconst (pc := 1) dX9_undo_1 (by decide) ?_
  refine a_putI (y := 8) (pc := 2) dX9_undo_2 fl_RX9_87 (by decide) s0_275 rfl rfl (tyX9_ok 8 (by decide)) rfl ?_
  refine a_aload_n (pc := 5) dX9_undo_5 (by decide) rfl ?_
  refine a_getI (y := 32) (pc := 6) dX9_undo_6 fl_RX9_249 (by decide) s0_275 (Or.inr rfl) rfl ?_
  refine a_eq (y := M 275 32) rfl ?_
  refine a_if_ne (tgt := 15) (pc := 9) dX9_undo_9 (by decide) (fun hc1 => ?_) (fun hc1 => ?_)
  · replace h := h.1 hc1
    refine a_aload_n (pc := 15) dX9_undo_15 (by decide) rfl ?_
    refine a_aload_n (pc := 16) dX9_undo_16 (by decide) rfl ?_
    refine a_getR (y := 294) (pc := 17) dX9_undo_17 fl_RX9_71 (by decide) s0_275 rfl rfl ?_
    refine a_iconst (pc := 20) dX9_undo_20 (by decide) ?_
    refine p_callV (As := [(2, 294), (0, 0)]) (st := []) (st1 := fun r => [])  (pc := 21) dX9_undo_21 ml_RX9_230 (by decide) s0_275 rfl (by decide) (Nat.le_of_ble_eq_true rfl) rfl (fun _ => rfl) h (fun r2 M3 h => ?_)
    refine a_aload_n (pc := 24) dX9_undo_24 (by decide) rfl ?_
    refine a_getI (y := 0) (pc := 25) dX9_undo_25 fl_RX9_98 (by decide) s0_275 (Or.inl rfl) rfl ?_
    exact a_ireti (pc := 28) dX9_undo_28 rfl rfl (Nat.le_of_ble_eq_true rfl) ⟨rfl, h⟩
  · replace h := h.2 hc1
    refine a_bipush (pc := 12) dX9_undo_12 (by decide) (by decide +kernel) ?_
    exact a_ireti (pc := 14) dX9_undo_14 rfl rfl (Nat.le_of_ble_eq_true rfl) ⟨rfl, h⟩
theorem E_R_undo {M : Mem} {Q : Int → Mem → Prop} (h : AW mX9_undo 0 [(2, 275)] M Q) : Calls mX9_undo [(2, 275)] S0 M Q := calls_of (by decide) (by decide) (Nat.le_of_ble_eq_true rfl) rfl h
set_option maxRecDepth 100000 in
set_option maxHeartbeats 4000000 in
theorem B_R_get_0 {l1 l2 : Int} {M : Mem} {Q : Int → Mem → Prop} (h : ((l1 < 0 → Q (-2000000000) (up2 M 275 8 0)) ∧ (¬ (l1 < 0) → ((3 < l1 → Q (-2000000000) (up2 M 275 8 0)) ∧ (¬ (3 < l1) → ((0 : Int) ≤ l1 ∧ l1 < 4) ∧ (((M 296 l1) = 0 → Q (-2000000000) (up2 M 275 8 0)) ∧ (¬ (M 296 l1) = 0 → (-2147483648 ≤ (M 297 l1) - 1 ∧ (M 297 l1) - 1 ≤ 2147483647) ∧ ((l2 < 0 → Q (-2000000000) (up2 M 275 8 0)) ∧ (¬ (l2 < 0) → ((((M 297 l1) - 1) < l2 → Q (-2000000000) (up2 M 275 8 0)) ∧ (¬ (((M 297 l1) - 1) < l2) → (-2147483648 ≤ 20 * l1 ∧ 20 * l1 ≤ 2147483647) ∧ (-2147483648 ≤ (20 * l1) + l2 ∧ (20 * l1) + l2 ≤ 2147483647) ∧ ((0 : Int) ≤ (20 * l1) + l2 ∧ (20 * l1) + l2 < 80) ∧ Q (M 298 ((20 * l1) + l2)) (up2 M 275 8 0)))))))))))) : AW mX9_get 0 [(2, 275), (0, l1), (0, l2)] M Q := by
  refine a_aload_n (pc := 0) dX9_get_0 (by decide) rfl ?_
  refine a_iconst (pc := 1) dX9_get_1 (by decide) ?_
  refine a_putI (y := 8) (pc := 2) dX9_get_2 fl_RX9_87 (by decide) s0_275 rfl rfl (tyX9_ok 8 (by decide)) rfl ?_
  refine a_iload_n (pc := 5) dX9_get_5 rfl ?_
  refine p_inlS (Ex := _) (As := [(0, l1)]) (st := []) (st1 := fun r => [(0, r)])  (pc := 6) dX9_get_6 ml_RX9_343 (by decide) (Nat.le_of_ble_eq_true rfl) rfl (fun _ => rfl) (by decide) (by decide) (Nat.le_of_ble_eq_true rfl) rfl ?_
  refine a_iload_n (pc := 0) dX9_isList_0 rfl ?_
  refine a_i2l (pc := 1) dX9_isList_1 ?_
  refine a_lconst (v := 0) (pc := 2) dX9_isList_2 rfl ?_
  refine a_ldc2 (v := 3) (pc := 3) dX9_isList_3 kc_RX9_252 (by decide) ?_
  refine p_inlS (Ex := _) (As := [(1, l1), (1, 0), (1, 3)]) (st := []) (st1 := fun r => [(0, r)])  (pc := 6) dX9_isList_6 ml_RX9_92 (by decide) (Nat.le_of_ble_eq_true rfl) rfl (fun _ => rfl) (by decide) (by decide) (Nat.le_of_ble_eq_true rfl) rfl ?_
  refine a_lload_n (pc := 0) dX9_in_0 rfl ?_
  refine a_lload_n (pc := 1) dX9_in_1 rfl ?_
  refine a_lcmp_lt (tgt := 17) (pc := 2) dX9_in_2 dX9_in_3 (by decide) (fun hc1 => ?_) (fun hc1 => ?_)
  · replace h := h.1 hc1
    refine a_iconst (pc := 17) dX9_in_17 (by decide) ?_
    refine a_iretz (pc := 18) dX9_in_18 rfl rfl (Nat.le_of_ble_eq_true rfl) (by decide) ⟨rfl, ?_⟩
    refine a_iretz (pc := 9) dX9_isList_9 rfl rfl (Nat.le_of_ble_eq_true rfl) (by decide) ⟨rfl, ?_⟩
    refine a_if_eq (tgt := 53) (pc := 9) dX9_get_9 (by decide) (fun _ => ?_) (fun hc => absurd (by decide) hc)
    refine a_ldc_w (v := (-2000000000)) (pc := 53) dX9_get_53 kc_RX9_346 (by decide) ?_
    exact a_ireti (pc := 56) dX9_get_56 rfl rfl (Nat.le_of_ble_eq_true rfl) ⟨rfl, h⟩
  · replace h := h.2 hc1
    refine a_lload_n (pc := 6) dX9_in_6 rfl ?_
    refine a_lload (pc := 7) dX9_in_7 rfl ?_
    refine a_lcmp_gt (tgt := 17) (pc := 9) dX9_in_9 dX9_in_10 (by decide) (fun hc2 => ?_) (fun hc2 => ?_)
    · replace h := h.1 hc2
      refine a_iconst (pc := 17) dX9_in_17 (by decide) ?_
      refine a_iretz (pc := 18) dX9_in_18 rfl rfl (Nat.le_of_ble_eq_true rfl) (by decide) ⟨rfl, ?_⟩
      refine a_iretz (pc := 9) dX9_isList_9 rfl rfl (Nat.le_of_ble_eq_true rfl) (by decide) ⟨rfl, ?_⟩
      refine a_if_eq (tgt := 53) (pc := 9) dX9_get_9 (by decide) (fun _ => ?_) (fun hc => absurd (by decide) hc)
      refine a_ldc_w (v := (-2000000000)) (pc := 53) dX9_get_53 kc_RX9_346 (by decide) ?_
      exact a_ireti (pc := 56) dX9_get_56 rfl rfl (Nat.le_of_ble_eq_true rfl) ⟨rfl, h⟩
    · replace h := h.2 hc2
      refine a_iconst (pc := 13) dX9_in_13 (by decide) ?_
      refine a_goto (tgt := 18) (pc := 14) dX9_in_14 (by decide) ?_
      refine a_iretz (pc := 18) dX9_in_18 rfl rfl (Nat.le_of_ble_eq_true rfl) (by decide) ⟨rfl, ?_⟩
      refine a_iretz (pc := 9) dX9_isList_9 rfl rfl (Nat.le_of_ble_eq_true rfl) (by decide) ⟨rfl, ?_⟩
      refine a_if_eq (tgt := 53) (pc := 9) dX9_get_9 (by decide) (fun hc => absurd hc (by decide)) (fun _ => ?_)
      refine a_aload_n (pc := 12) dX9_get_12 (by decide) rfl ?_
      refine a_getR (y := 296) (pc := 13) dX9_get_13 fl_RX9_77 (by decide) s0_275 rfl rfl ?_
      refine a_iload_n (pc := 16) dX9_get_16 rfl ?_
      have ho3 := h.1
      replace h := h.2
      refine a_zald (pc := 17) dX9_get_17 (by decide) s0_296 ho3.1 ho3.2 ?_
      refine a_eq (y := M 296 l1) rfl ?_
      refine a_if_eq (tgt := 53) (pc := 18) dX9_get_18 (by decide) (fun hc4 => ?_) (fun hc4 => ?_)
      · replace h := h.1 hc4
        refine a_ldc_w (v := (-2000000000)) (pc := 53) dX9_get_53 kc_RX9_346 (by decide) ?_
        exact a_ireti (pc := 56) dX9_get_56 rfl rfl (Nat.le_of_ble_eq_true rfl) ⟨rfl, h⟩
      · replace h := h.2 hc4
        refine a_iload_n (pc := 21) dX9_get_21 rfl ?_
        refine a_i2l (pc := 22) dX9_get_22 ?_
        refine a_lconst (v := 0) (pc := 23) dX9_get_23 rfl ?_
        refine a_aload_n (pc := 24) dX9_get_24 (by decide) rfl ?_
        refine a_getR (y := 297) (pc := 25) dX9_get_25 fl_RX9_81 (by decide) s0_275 rfl rfl ?_
        refine a_iload_n (pc := 28) dX9_get_28 rfl ?_
        refine a_iald (pc := 29) dX9_get_29 (by decide) s0_297 ho3.1 ho3.2 ?_
        refine a_eq (y := M 297 l1) rfl ?_
        refine a_iconst (pc := 30) dX9_get_30 (by decide) ?_
        have ho5 := h.1
        replace h := h.2
        refine a_isub (pc := 31) dX9_get_31 ho5 ?_
        refine a_i2l (pc := 32) dX9_get_32 ?_
        refine p_inlS (Ex := _) (As := [(1, l2), (1, 0), (1, (M 297 l1) - 1)]) (st := []) (st1 := fun r => [(0, r)])  (pc := 33) dX9_get_33 ml_RX9_92 (by decide) (Nat.le_of_ble_eq_true rfl) rfl (fun _ => rfl) (by decide) (by decide) (Nat.le_of_ble_eq_true rfl) rfl ?_
        refine a_lload_n (pc := 0) dX9_in_0 rfl ?_
        refine a_lload_n (pc := 1) dX9_in_1 rfl ?_
        refine a_lcmp_lt (tgt := 17) (pc := 2) dX9_in_2 dX9_in_3 (by decide) (fun hc6 => ?_) (fun hc6 => ?_)
        · replace h := h.1 hc6
          refine a_iconst (pc := 17) dX9_in_17 (by decide) ?_
          refine a_iretz (pc := 18) dX9_in_18 rfl rfl (Nat.le_of_ble_eq_true rfl) (by decide) ⟨rfl, ?_⟩
          refine a_if_eq (tgt := 53) (pc := 36) dX9_get_36 (by decide) (fun _ => ?_) (fun hc => absurd (by decide) hc)
          refine a_ldc_w (v := (-2000000000)) (pc := 53) dX9_get_53 kc_RX9_346 (by decide) ?_
          exact a_ireti (pc := 56) dX9_get_56 rfl rfl (Nat.le_of_ble_eq_true rfl) ⟨rfl, h⟩
        · replace h := h.2 hc6
          refine a_lload_n (pc := 6) dX9_in_6 rfl ?_
          refine a_lload (pc := 7) dX9_in_7 rfl ?_
          refine a_lcmp_gt (tgt := 17) (pc := 9) dX9_in_9 dX9_in_10 (by decide) (fun hc7 => ?_) (fun hc7 => ?_)
          · replace h := h.1 hc7
            refine a_iconst (pc := 17) dX9_in_17 (by decide) ?_
            refine a_iretz (pc := 18) dX9_in_18 rfl rfl (Nat.le_of_ble_eq_true rfl) (by decide) ⟨rfl, ?_⟩
            refine a_if_eq (tgt := 53) (pc := 36) dX9_get_36 (by decide) (fun _ => ?_) (fun hc => absurd (by decide) hc)
            refine a_ldc_w (v := (-2000000000)) (pc := 53) dX9_get_53 kc_RX9_346 (by decide) ?_
            exact a_ireti (pc := 56) dX9_get_56 rfl rfl (Nat.le_of_ble_eq_true rfl) ⟨rfl, h⟩
          · replace h := h.2 hc7
            refine a_iconst (pc := 13) dX9_in_13 (by decide) ?_
            refine a_goto (tgt := 18) (pc := 14) dX9_in_14 (by decide) ?_
            refine a_iretz (pc := 18) dX9_in_18 rfl rfl (Nat.le_of_ble_eq_true rfl) (by decide) ⟨rfl, ?_⟩
            refine a_if_eq (tgt := 53) (pc := 36) dX9_get_36 (by decide) (fun hc => absurd hc (by decide)) (fun _ => ?_)
            refine a_aload_n (pc := 39) dX9_get_39 (by decide) rfl ?_
            refine a_getR (y := 298) (pc := 40) dX9_get_40 fl_RX9_84 (by decide) s0_275 rfl rfl ?_
            refine a_bipush (pc := 43) dX9_get_43 (by decide) (by decide +kernel) ?_
            refine a_iload_n (pc := 45) dX9_get_45 rfl ?_
            have ho8 := h.1
            replace h := h.2
            refine a_imul (pc := 46) dX9_get_46 ho8 ?_
            refine a_iload_n (pc := 47) dX9_get_47 rfl ?_
            have ho9 := h.1
            replace h := h.2
            refine a_iadd (pc := 48) dX9_get_48 ho9 ?_
            have ho10 := h.1
            replace h := h.2
            refine a_iald (pc := 49) dX9_get_49 (by decide) s0_298 ho10.1 ho10.2 ?_
            refine a_eq (y := M 298 ((20 * l1) + l2)) rfl ?_
            refine a_goto (tgt := 56) (pc := 50) dX9_get_50 (by decide) ?_
            exact a_ireti (pc := 56) dX9_get_56 rfl rfl (Nat.le_of_ble_eq_true rfl) ⟨rfl, h⟩
theorem E_R_get {l1 l2 : Int} {M : Mem} {Q : Int → Mem → Prop} (h : AW mX9_get 0 [(2, 275), (0, l1), (0, l2)] M Q) : Calls mX9_get [(2, 275), (0, l1), (0, l2)] S0 M Q := calls_of (by decide) (by decide) (Nat.le_of_ble_eq_true rfl) rfl h
set_option maxRecDepth 100000 in
set_option maxHeartbeats 4000000 in
theorem B_R_list_0 {l1 l2 : Int} {M : Mem} {Q : Int → Mem → Prop} (h : ((l1 < 0 → Q (-1) (up2 M 275 8 0)) ∧ (¬ (l1 < 0) → ((3 < l1 → Q (-1) (up2 M 275 8 0)) ∧ (¬ (3 < l1) → ((20 < l2 → ((0 ≤ l2 → Q (-2) (up2 M 275 8 0)) ∧ (¬ (0 ≤ l2) → Q (-14) (up2 M 275 8 0)))) ∧ (¬ (20 < l2) → ((0 ≤ l2 → ((0 : Int) ≤ l1 ∧ l1 < 4) ∧ AW mX9_list 52 [(2, 275), (0, l1), (9, 0), (0, 0)] (up2 (up2 (up2 M 275 8 0) 296 l1 1) 297 l1 l2) Q) ∧ (¬ (0 ≤ l2) → Q (-14) (up2 M 275 8 0)))))))))) : AW mX9_list 0 [(2, 275), (0, l1), (0, l2), (9, 0)] M Q := by
  refine a_aload_n (pc := 0) dX9_list_0 (by decide) rfl ?_
  refine a_iconst (pc := 1) dX9_list_1 (by decide) ?_
  refine a_putI (y := 8) (pc := 2) dX9_list_2 fl_RX9_87 (by decide) s0_275 rfl rfl (tyX9_ok 8 (by decide)) rfl ?_
  refine a_iload_n (pc := 5) dX9_list_5 rfl ?_
  refine p_inlS (Ex := _) (As := [(0, l1)]) (st := []) (st1 := fun r => [(0, r)])  (pc := 6) dX9_list_6 ml_RX9_343 (by decide) (Nat.le_of_ble_eq_true rfl) rfl (fun _ => rfl) (by decide) (by decide) (Nat.le_of_ble_eq_true rfl) rfl ?_
  refine a_iload_n (pc := 0) dX9_isList_0 rfl ?_
  refine a_i2l (pc := 1) dX9_isList_1 ?_
  refine a_lconst (v := 0) (pc := 2) dX9_isList_2 rfl ?_
  refine a_ldc2 (v := 3) (pc := 3) dX9_isList_3 kc_RX9_252 (by decide) ?_
  refine p_inlS (Ex := _) (As := [(1, l1), (1, 0), (1, 3)]) (st := []) (st1 := fun r => [(0, r)])  (pc := 6) dX9_isList_6 ml_RX9_92 (by decide) (Nat.le_of_ble_eq_true rfl) rfl (fun _ => rfl) (by decide) (by decide) (Nat.le_of_ble_eq_true rfl) rfl ?_
  refine a_lload_n (pc := 0) dX9_in_0 rfl ?_
  refine a_lload_n (pc := 1) dX9_in_1 rfl ?_
  refine a_lcmp_lt (tgt := 17) (pc := 2) dX9_in_2 dX9_in_3 (by decide) (fun hc1 => ?_) (fun hc1 => ?_)
  · replace h := h.1 hc1
    refine a_iconst (pc := 17) dX9_in_17 (by decide) ?_
    refine a_iretz (pc := 18) dX9_in_18 rfl rfl (Nat.le_of_ble_eq_true rfl) (by decide) ⟨rfl, ?_⟩
    refine a_iretz (pc := 9) dX9_isList_9 rfl rfl (Nat.le_of_ble_eq_true rfl) (by decide) ⟨rfl, ?_⟩
    refine a_if_ne (tgt := 14) (pc := 9) dX9_list_9 (by decide) (fun hc => absurd rfl hc) (fun _ => ?_)
    refine a_iconst (pc := 12) dX9_list_12 (by decide) ?_
    exact a_ireti (pc := 13) dX9_list_13 rfl rfl (Nat.le_of_ble_eq_true rfl) ⟨rfl, h⟩
  · replace h := h.2 hc1
    refine a_lload_n (pc := 6) dX9_in_6 rfl ?_
    refine a_lload (pc := 7) dX9_in_7 rfl ?_
    refine a_lcmp_gt (tgt := 17) (pc := 9) dX9_in_9 dX9_in_10 (by decide) (fun hc2 => ?_) (fun hc2 => ?_)
    · replace h := h.1 hc2
      refine a_iconst (pc := 17) dX9_in_17 (by decide) ?_
      refine a_iretz (pc := 18) dX9_in_18 rfl rfl (Nat.le_of_ble_eq_true rfl) (by decide) ⟨rfl, ?_⟩
      refine a_iretz (pc := 9) dX9_isList_9 rfl rfl (Nat.le_of_ble_eq_true rfl) (by decide) ⟨rfl, ?_⟩
      refine a_if_ne (tgt := 14) (pc := 9) dX9_list_9 (by decide) (fun hc => absurd rfl hc) (fun _ => ?_)
      refine a_iconst (pc := 12) dX9_list_12 (by decide) ?_
      exact a_ireti (pc := 13) dX9_list_13 rfl rfl (Nat.le_of_ble_eq_true rfl) ⟨rfl, h⟩
    · replace h := h.2 hc2
      refine a_iconst (pc := 13) dX9_in_13 (by decide) ?_
      refine a_goto (tgt := 18) (pc := 14) dX9_in_14 (by decide) ?_
      refine a_iretz (pc := 18) dX9_in_18 rfl rfl (Nat.le_of_ble_eq_true rfl) (by decide) ⟨rfl, ?_⟩
      refine a_iretz (pc := 9) dX9_isList_9 rfl rfl (Nat.le_of_ble_eq_true rfl) (by decide) ⟨rfl, ?_⟩
      refine a_if_ne (tgt := 14) (pc := 9) dX9_list_9 (by decide) (fun _ => ?_) (fun hc => absurd hc (by decide))
      refine a_iload_n (pc := 14) dX9_list_14 rfl ?_
      refine a_bipush (pc := 15) dX9_list_15 (by decide) (by decide +kernel) ?_
      refine a_icmp_gt (tgt := 24) (pc := 17) dX9_list_17 (by decide) (fun hc3 => ?_) (fun hc3 => ?_)
      · replace h := h.1 hc3
        refine a_iload_n (pc := 24) dX9_list_24 rfl ?_
        refine a_if_ge (tgt := 33) (pc := 25) dX9_list_25 (by decide) (fun hc4 => ?_) (fun hc4 => ?_)
        · replace h := h.1 hc4
          refine a_bipush (pc := 33) dX9_list_33 (by decide) (by decide +kernel) ?_
          exact a_ireti (pc := 35) dX9_list_35 rfl rfl (Nat.le_of_ble_eq_true rfl) ⟨rfl, h⟩
        · replace h := h.2 hc4
          refine a_bipush (pc := 28) dX9_list_28 (by decide) (by decide +kernel) ?_
          refine a_goto (tgt := 35) (pc := 30) dX9_list_30 (by decide) ?_
          exact a_ireti (pc := 35) dX9_list_35 rfl rfl (Nat.le_of_ble_eq_true rfl) ⟨rfl, h⟩
      · replace h := h.2 hc3
        refine a_iload_n (pc := 20) dX9_list_20 rfl ?_
        refine a_if_ge (tgt := 36) (pc := 21) dX9_list_21 (by decide) (fun hc5 => ?_) (fun hc5 => ?_)
        · replace h := h.1 hc5
          refine a_aload_n (pc := 36) dX9_list_36 (by decide) rfl ?_
          refine a_getR (y := 296) (pc := 37) dX9_list_37 fl_RX9_77 (by decide) s0_275 rfl rfl ?_
          refine a_iload_n (pc := 40) dX9_list_40 rfl ?_
          refine a_iconst (pc := 41) dX9_list_41 (by decide) ?_
          have ho6 := h.1
          replace h := h.2
          refine a_zast (pc := 42) dX9_list_42 (by decide) s0_296 ho6.1 ho6.2 (by decide) ?_
          refine a_aload_n (pc := 43) dX9_list_43 (by decide) rfl ?_
          refine a_getR (y := 297) (pc := 44) dX9_list_44 fl_RX9_81 (by decide) s0_275 rfl rfl ?_
          refine a_iload_n (pc := 47) dX9_list_47 rfl ?_
          refine a_iload_n (pc := 48) dX9_list_48 rfl ?_
          refine a_iast (pc := 49) dX9_list_49 (by decide) s0_297 ho6.1 ho6.2 ?_
          refine a_iconst (pc := 50) dX9_list_50 (by decide) ?_
          refine a_istore_n (ls1 := [(2, 275), (0, l1), (0, l2), (0, 0)]) (pc := 51) dX9_list_51 (by decide) (hp1 (t := 0) rfl (by decide)) rfl ?_
          exact a_msk [true, true, false, true] rfl h
        · replace h := h.2 hc5
          refine a_iload_n (pc := 24) dX9_list_24 rfl ?_
          refine a_if_ge (tgt := 33) (pc := 25) dX9_list_25 (by decide) (fun hc => absurd hc hc5) (fun _ => ?_)
          refine a_bipush (pc := 28) dX9_list_28 (by decide) (by decide +kernel) ?_
          refine a_goto (tgt := 35) (pc := 30) dX9_list_30 (by decide) ?_
          exact a_ireti (pc := 35) dX9_list_35 rfl rfl (Nat.le_of_ble_eq_true rfl) ⟨rfl, h⟩
set_option maxRecDepth 100000 in
set_option maxHeartbeats 4000000 in
theorem B_R_list_52 {l1 l3 : Int} {M : Mem} {Q : Int → Mem → Prop} (h : ((20 ≤ l3 → Q 1 M) ∧ (¬ (20 ≤ l3) → (-2147483648 ≤ 20 * l1 ∧ 20 * l1 ≤ 2147483647) ∧ (-2147483648 ≤ (20 * l1) + l3 ∧ (20 * l1) + l3 ≤ 2147483647) ∧ ((0 : Int) ≤ (20 * l1) + l3 ∧ (20 * l1) + l3 < 80) ∧ (-2147483648 ≤ l3 + 1 ∧ l3 + 1 ≤ 2147483647) ∧ AW mX9_list 52 [(2, 275), (0, l1), (9, 0), (0, l3 + 1)] (up2 M 298 ((20 * l1) + l3) 0) Q))) : AW mX9_list 52 [(2, 275), (0, l1), (9, 0), (0, l3)] M Q := by
  refine a_iload_n (pc := 52) dX9_list_52 rfl ?_
  refine a_bipush (pc := 53) dX9_list_53 (by decide) (by decide +kernel) ?_
  refine a_icmp_ge (tgt := 76) (pc := 55) dX9_list_55 (by decide) (fun hc1 => ?_) (fun hc1 => ?_)
  · replace h := h.1 hc1
    refine a_iconst (pc := 76) dX9_list_76 (by decide) ?_
    exact a_ireti (pc := 77) dX9_list_77 rfl rfl (Nat.le_of_ble_eq_true rfl) ⟨rfl, h⟩
  · replace h := h.2 hc1
    refine a_aload_n (pc := 58) dX9_list_58 (by decide) rfl ?_
    refine a_getR (y := 298) (pc := 59) dX9_list_59 fl_RX9_84 (by decide) s0_275 rfl rfl ?_
    refine a_bipush (pc := 62) dX9_list_62 (by decide) (by decide +kernel) ?_
    refine a_iload_n (pc := 64) dX9_list_64 rfl ?_
    have ho2 := h.1
    replace h := h.2
    refine a_imul (pc := 65) dX9_list_65 ho2 ?_
    refine a_iload_n (pc := 66) dX9_list_66 rfl ?_
    have ho3 := h.1
    replace h := h.2
    refine a_iadd (pc := 67) dX9_list_67 ho3 ?_
    refine a_iconst (pc := 68) dX9_list_68 (by decide) ?_
    have ho4 := h.1
    replace h := h.2
    refine a_iast (pc := 69) dX9_list_69 (by decide) s0_298 ho4.1 ho4.2 ?_
    have ho5 := h.1
    replace h := h.2
    refine a_iinc (ls1 := [(2, 275), (0, l1), (9, 0), (0, l3 + 1)]) (pc := 70) dX9_list_70 rfl (by decide) (hp1 (t := 9) rfl (by decide)) ho5 rfl ?_
    refine a_goto (tgt := 52) (pc := 73) dX9_list_73 (by decide) ?_
    exact h
theorem E_R_list {l1 l2 : Int} {M : Mem} {Q : Int → Mem → Prop} (h : AW mX9_list 0 [(2, 275), (0, l1), (0, l2), (9, 0)] M Q) : Calls mX9_list [(2, 275), (0, l1), (0, l2)] S0 M Q := calls_of (by decide) (by decide) (Nat.le_of_ble_eq_true rfl) rfl h
set_option maxRecDepth 100000 in
set_option maxHeartbeats 4000000 in
theorem B_R_set_0 {l1 l2 l3 : Int} {M : Mem} {Q : Int → Mem → Prop} (h : ((l1 < 0 → Q (-1) (up2 M 275 8 0)) ∧ (¬ (l1 < 0) → ((3 < l1 → Q (-1) (up2 M 275 8 0)) ∧ (¬ (3 < l1) → ((0 : Int) ≤ l1 ∧ l1 < 4) ∧ ((¬ (M 296 l1) = 0 → (-2147483648 ≤ (M 297 l1) - 1 ∧ (M 297 l1) - 1 ≤ 2147483647) ∧ ((l2 < 0 → Q (-13) (up2 M 275 8 0)) ∧ (¬ (l2 < 0) → ((((M 297 l1) - 1) < l2 → Q (-13) (up2 M 275 8 0)) ∧ (¬ (((M 297 l1) - 1) < l2) → (-2147483648 ≤ 20 * l1 ∧ 20 * l1 ≤ 2147483647) ∧ (-2147483648 ≤ (20 * l1) + l2 ∧ (20 * l1) + l2 ≤ 2147483647) ∧ ((0 : Int) ≤ (20 * l1) + l2 ∧ (20 * l1) + l2 < 80) ∧ Q 1 (up2 (up2 M 275 8 0) 298 ((20 * l1) + l2) l3)))))) ∧ ((M 296 l1) = 0 → Q (-11) (up2 M 275 8 0)))))))) : AW mX9_set 0 [(2, 275), (0, l1), (0, l2), (0, l3)] M Q := by
  refine a_aload_n (pc := 0) dX9_set_0 (by decide) rfl ?_
  refine a_iconst (pc := 1) dX9_set_1 (by decide) ?_
  refine a_putI (y := 8) (pc := 2) dX9_set_2 fl_RX9_87 (by decide) s0_275 rfl rfl (tyX9_ok 8 (by decide)) rfl ?_
  refine a_iload_n (pc := 5) dX9_set_5 rfl ?_
  refine p_inlS (Ex := _) (As := [(0, l1)]) (st := []) (st1 := fun r => [(0, r)])  (pc := 6) dX9_set_6 ml_RX9_343 (by decide) (Nat.le_of_ble_eq_true rfl) rfl (fun _ => rfl) (by decide) (by decide) (Nat.le_of_ble_eq_true rfl) rfl ?_
  refine a_iload_n (pc := 0) dX9_isList_0 rfl ?_
  refine a_i2l (pc := 1) dX9_isList_1 ?_
  refine a_lconst (v := 0) (pc := 2) dX9_isList_2 rfl ?_
  refine a_ldc2 (v := 3) (pc := 3) dX9_isList_3 kc_RX9_252 (by decide) ?_
  refine p_inlS (Ex := _) (As := [(1, l1), (1, 0), (1, 3)]) (st := []) (st1 := fun r => [(0, r)])  (pc := 6) dX9_isList_6 ml_RX9_92 (by decide) (Nat.le_of_ble_eq_true rfl) rfl (fun _ => rfl) (by decide) (by decide) (Nat.le_of_ble_eq_true rfl) rfl ?_
  refine a_lload_n (pc := 0) dX9_in_0 rfl ?_
  refine a_lload_n (pc := 1) dX9_in_1 rfl ?_
  refine a_lcmp_lt (tgt := 17) (pc := 2) dX9_in_2 dX9_in_3 (by decide) (fun hc1 => ?_) (fun hc1 => ?_)
  · replace h := h.1 hc1
    refine a_iconst (pc := 17) dX9_in_17 (by decide) ?_
    refine a_iretz (pc := 18) dX9_in_18 rfl rfl (Nat.le_of_ble_eq_true rfl) (by decide) ⟨rfl, ?_⟩
    refine a_iretz (pc := 9) dX9_isList_9 rfl rfl (Nat.le_of_ble_eq_true rfl) (by decide) ⟨rfl, ?_⟩
    refine a_if_eq (tgt := 21) (pc := 9) dX9_set_9 (by decide) (fun _ => ?_) (fun hc => absurd (by decide) hc)
    refine a_iload_n (pc := 21) dX9_set_21 rfl ?_
    refine p_inlS (Ex := _) (As := [(0, l1)]) (st := []) (st1 := fun r => [(0, r)])  (pc := 22) dX9_set_22 ml_RX9_343 (by decide) (Nat.le_of_ble_eq_true rfl) rfl (fun _ => rfl) (by decide) (by decide) (Nat.le_of_ble_eq_true rfl) rfl ?_
    refine a_iload_n (pc := 0) dX9_isList_0 rfl ?_
    refine a_i2l (pc := 1) dX9_isList_1 ?_
    refine a_lconst (v := 0) (pc := 2) dX9_isList_2 rfl ?_
    refine a_ldc2 (v := 3) (pc := 3) dX9_isList_3 kc_RX9_252 (by decide) ?_
    refine p_inlS (Ex := _) (As := [(1, l1), (1, 0), (1, 3)]) (st := []) (st1 := fun r => [(0, r)])  (pc := 6) dX9_isList_6 ml_RX9_92 (by decide) (Nat.le_of_ble_eq_true rfl) rfl (fun _ => rfl) (by decide) (by decide) (Nat.le_of_ble_eq_true rfl) rfl ?_
    refine a_lload_n (pc := 0) dX9_in_0 rfl ?_
    refine a_lload_n (pc := 1) dX9_in_1 rfl ?_
    refine a_lcmp_lt (tgt := 17) (pc := 2) dX9_in_2 dX9_in_3 (by decide) (fun _ => ?_) (fun hc => absurd hc1 hc)
    refine a_iconst (pc := 17) dX9_in_17 (by decide) ?_
    refine a_iretz (pc := 18) dX9_in_18 rfl rfl (Nat.le_of_ble_eq_true rfl) (by decide) ⟨rfl, ?_⟩
    refine a_iretz (pc := 9) dX9_isList_9 rfl rfl (Nat.le_of_ble_eq_true rfl) (by decide) ⟨rfl, ?_⟩
    refine a_if_eq (tgt := 33) (pc := 25) dX9_set_25 (by decide) (fun _ => ?_) (fun hc => absurd (by decide) hc)
    refine a_iconst (pc := 33) dX9_set_33 (by decide) ?_
    exact a_ireti (pc := 34) dX9_set_34 rfl rfl (Nat.le_of_ble_eq_true rfl) ⟨rfl, h⟩
  · replace h := h.2 hc1
    refine a_lload_n (pc := 6) dX9_in_6 rfl ?_
    refine a_lload (pc := 7) dX9_in_7 rfl ?_
    refine a_lcmp_gt (tgt := 17) (pc := 9) dX9_in_9 dX9_in_10 (by decide) (fun hc2 => ?_) (fun hc2 => ?_)
    · replace h := h.1 hc2
      refine a_iconst (pc := 17) dX9_in_17 (by decide) ?_
      refine a_iretz (pc := 18) dX9_in_18 rfl rfl (Nat.le_of_ble_eq_true rfl) (by decide) ⟨rfl, ?_⟩
      refine a_iretz (pc := 9) dX9_isList_9 rfl rfl (Nat.le_of_ble_eq_true rfl) (by decide) ⟨rfl, ?_⟩
      refine a_if_eq (tgt := 21) (pc := 9) dX9_set_9 (by decide) (fun _ => ?_) (fun hc => absurd (by decide) hc)
      refine a_iload_n (pc := 21) dX9_set_21 rfl ?_
      refine p_inlS (Ex := _) (As := [(0, l1)]) (st := []) (st1 := fun r => [(0, r)])  (pc := 22) dX9_set_22 ml_RX9_343 (by decide) (Nat.le_of_ble_eq_true rfl) rfl (fun _ => rfl) (by decide) (by decide) (Nat.le_of_ble_eq_true rfl) rfl ?_
      refine a_iload_n (pc := 0) dX9_isList_0 rfl ?_
      refine a_i2l (pc := 1) dX9_isList_1 ?_
      refine a_lconst (v := 0) (pc := 2) dX9_isList_2 rfl ?_
      refine a_ldc2 (v := 3) (pc := 3) dX9_isList_3 kc_RX9_252 (by decide) ?_
      refine p_inlS (Ex := _) (As := [(1, l1), (1, 0), (1, 3)]) (st := []) (st1 := fun r => [(0, r)])  (pc := 6) dX9_isList_6 ml_RX9_92 (by decide) (Nat.le_of_ble_eq_true rfl) rfl (fun _ => rfl) (by decide) (by decide) (Nat.le_of_ble_eq_true rfl) rfl ?_
      refine a_lload_n (pc := 0) dX9_in_0 rfl ?_
      refine a_lload_n (pc := 1) dX9_in_1 rfl ?_
      refine a_lcmp_lt (tgt := 17) (pc := 2) dX9_in_2 dX9_in_3 (by decide) (fun hc => absurd hc hc1) (fun _ => ?_)
      refine a_lload_n (pc := 6) dX9_in_6 rfl ?_
      refine a_lload (pc := 7) dX9_in_7 rfl ?_
      refine a_lcmp_gt (tgt := 17) (pc := 9) dX9_in_9 dX9_in_10 (by decide) (fun _ => ?_) (fun hc => absurd hc2 hc)
      refine a_iconst (pc := 17) dX9_in_17 (by decide) ?_
      refine a_iretz (pc := 18) dX9_in_18 rfl rfl (Nat.le_of_ble_eq_true rfl) (by decide) ⟨rfl, ?_⟩
      refine a_iretz (pc := 9) dX9_isList_9 rfl rfl (Nat.le_of_ble_eq_true rfl) (by decide) ⟨rfl, ?_⟩
      refine a_if_eq (tgt := 33) (pc := 25) dX9_set_25 (by decide) (fun _ => ?_) (fun hc => absurd (by decide) hc)
      refine a_iconst (pc := 33) dX9_set_33 (by decide) ?_
      exact a_ireti (pc := 34) dX9_set_34 rfl rfl (Nat.le_of_ble_eq_true rfl) ⟨rfl, h⟩
    · replace h := h.2 hc2
      refine a_iconst (pc := 13) dX9_in_13 (by decide) ?_
      refine a_goto (tgt := 18) (pc := 14) dX9_in_14 (by decide) ?_
      refine a_iretz (pc := 18) dX9_in_18 rfl rfl (Nat.le_of_ble_eq_true rfl) (by decide) ⟨rfl, ?_⟩
      refine a_iretz (pc := 9) dX9_isList_9 rfl rfl (Nat.le_of_ble_eq_true rfl) (by decide) ⟨rfl, ?_⟩
      refine a_if_eq (tgt := 21) (pc := 9) dX9_set_9 (by decide) (fun hc => absurd hc (by decide)) (fun _ => ?_)
      refine a_aload_n (pc := 12) dX9_set_12 (by decide) rfl ?_
      refine a_getR (y := 296) (pc := 13) dX9_set_13 fl_RX9_77 (by decide) s0_275 rfl rfl ?_
      refine a_iload_n (pc := 16) dX9_set_16 rfl ?_
      have ho3 := h.1
      replace h := h.2
      refine a_zald (pc := 17) dX9_set_17 (by decide) s0_296 ho3.1 ho3.2 ?_
      refine a_eq (y := M 296 l1) rfl ?_
      refine a_if_ne (tgt := 35) (pc := 18) dX9_set_18 (by decide) (fun hc4 => ?_) (fun hc4 => ?_)
      · replace h := h.1 hc4
        refine a_iload_n (pc := 35) dX9_set_35 rfl ?_
        refine a_i2l (pc := 36) dX9_set_36 ?_
        refine a_lconst (v := 0) (pc := 37) dX9_set_37 rfl ?_
        refine a_aload_n (pc := 38) dX9_set_38 (by decide) rfl ?_
        refine a_getR (y := 297) (pc := 39) dX9_set_39 fl_RX9_81 (by decide) s0_275 rfl rfl ?_
        refine a_iload_n (pc := 42) dX9_set_42 rfl ?_
        refine a_iald (pc := 43) dX9_set_43 (by decide) s0_297 ho3.1 ho3.2 ?_
        refine a_eq (y := M 297 l1) rfl ?_
        refine a_iconst (pc := 44) dX9_set_44 (by decide) ?_
        have ho5 := h.1
        replace h := h.2
        refine a_isub (pc := 45) dX9_set_45 ho5 ?_
        refine a_i2l (pc := 46) dX9_set_46 ?_
        refine p_inlS (Ex := _) (As := [(1, l2), (1, 0), (1, (M 297 l1) - 1)]) (st := []) (st1 := fun r => [(0, r)])  (pc := 47) dX9_set_47 ml_RX9_92 (by decide) (Nat.le_of_ble_eq_true rfl) rfl (fun _ => rfl) (by decide) (by decide) (Nat.le_of_ble_eq_true rfl) rfl ?_
        refine a_lload_n (pc := 0) dX9_in_0 rfl ?_
        refine a_lload_n (pc := 1) dX9_in_1 rfl ?_
        refine a_lcmp_lt (tgt := 17) (pc := 2) dX9_in_2 dX9_in_3 (by decide) (fun hc6 => ?_) (fun hc6 => ?_)
        · replace h := h.1 hc6
          refine a_iconst (pc := 17) dX9_in_17 (by decide) ?_
          refine a_iretz (pc := 18) dX9_in_18 rfl rfl (Nat.le_of_ble_eq_true rfl) (by decide) ⟨rfl, ?_⟩
          refine a_if_ne (tgt := 56) (pc := 50) dX9_set_50 (by decide) (fun hc => absurd rfl hc) (fun _ => ?_)
          refine a_bipush (pc := 53) dX9_set_53 (by decide) (by decide +kernel) ?_
          exact a_ireti (pc := 55) dX9_set_55 rfl rfl (Nat.le_of_ble_eq_true rfl) ⟨rfl, h⟩
        · replace h := h.2 hc6
          refine a_lload_n (pc := 6) dX9_in_6 rfl ?_
          refine a_lload (pc := 7) dX9_in_7 rfl ?_
          refine a_lcmp_gt (tgt := 17) (pc := 9) dX9_in_9 dX9_in_10 (by decide) (fun hc7 => ?_) (fun hc7 => ?_)
          · replace h := h.1 hc7
            refine a_iconst (pc := 17) dX9_in_17 (by decide) ?_
            refine a_iretz (pc := 18) dX9_in_18 rfl rfl (Nat.le_of_ble_eq_true rfl) (by decide) ⟨rfl, ?_⟩
            refine a_if_ne (tgt := 56) (pc := 50) dX9_set_50 (by decide) (fun hc => absurd rfl hc) (fun _ => ?_)
            refine a_bipush (pc := 53) dX9_set_53 (by decide) (by decide +kernel) ?_
            exact a_ireti (pc := 55) dX9_set_55 rfl rfl (Nat.le_of_ble_eq_true rfl) ⟨rfl, h⟩
          · replace h := h.2 hc7
            refine a_iconst (pc := 13) dX9_in_13 (by decide) ?_
            refine a_goto (tgt := 18) (pc := 14) dX9_in_14 (by decide) ?_
            refine a_iretz (pc := 18) dX9_in_18 rfl rfl (Nat.le_of_ble_eq_true rfl) (by decide) ⟨rfl, ?_⟩
            refine a_if_ne (tgt := 56) (pc := 50) dX9_set_50 (by decide) (fun _ => ?_) (fun hc => absurd hc (by decide))
            refine a_aload_n (pc := 56) dX9_set_56 (by decide) rfl ?_
            refine a_getR (y := 298) (pc := 57) dX9_set_57 fl_RX9_84 (by decide) s0_275 rfl rfl ?_
            refine a_bipush (pc := 60) dX9_set_60 (by decide) (by decide +kernel) ?_
            refine a_iload_n (pc := 62) dX9_set_62 rfl ?_
            have ho8 := h.1
            replace h := h.2
            refine a_imul (pc := 63) dX9_set_63 ho8 ?_
            refine a_iload_n (pc := 64) dX9_set_64 rfl ?_
            have ho9 := h.1
            replace h := h.2
            refine a_iadd (pc := 65) dX9_set_65 ho9 ?_
            refine a_iload_n (pc := 66) dX9_set_66 rfl ?_
            have ho10 := h.1
            replace h := h.2
            refine a_iast (pc := 67) dX9_set_67 (by decide) s0_298 ho10.1 ho10.2 ?_
            refine a_iconst (pc := 68) dX9_set_68 (by decide) ?_
            exact a_ireti (pc := 69) dX9_set_69 rfl rfl (Nat.le_of_ble_eq_true rfl) ⟨rfl, h⟩
      · replace h := h.2 hc4
        refine a_iload_n (pc := 21) dX9_set_21 rfl ?_
        refine p_inlS (Ex := _) (As := [(0, l1)]) (st := []) (st1 := fun r => [(0, r)])  (pc := 22) dX9_set_22 ml_RX9_343 (by decide) (Nat.le_of_ble_eq_true rfl) rfl (fun _ => rfl) (by decide) (by decide) (Nat.le_of_ble_eq_true rfl) rfl ?_
        refine a_iload_n (pc := 0) dX9_isList_0 rfl ?_
        refine a_i2l (pc := 1) dX9_isList_1 ?_
        refine a_lconst (v := 0) (pc := 2) dX9_isList_2 rfl ?_
        refine a_ldc2 (v := 3) (pc := 3) dX9_isList_3 kc_RX9_252 (by decide) ?_
        refine p_inlS (Ex := _) (As := [(1, l1), (1, 0), (1, 3)]) (st := []) (st1 := fun r => [(0, r)])  (pc := 6) dX9_isList_6 ml_RX9_92 (by decide) (Nat.le_of_ble_eq_true rfl) rfl (fun _ => rfl) (by decide) (by decide) (Nat.le_of_ble_eq_true rfl) rfl ?_
        refine a_lload_n (pc := 0) dX9_in_0 rfl ?_
        refine a_lload_n (pc := 1) dX9_in_1 rfl ?_
        refine a_lcmp_lt (tgt := 17) (pc := 2) dX9_in_2 dX9_in_3 (by decide) (fun hc => absurd hc hc1) (fun _ => ?_)
        refine a_lload_n (pc := 6) dX9_in_6 rfl ?_
        refine a_lload (pc := 7) dX9_in_7 rfl ?_
        refine a_lcmp_gt (tgt := 17) (pc := 9) dX9_in_9 dX9_in_10 (by decide) (fun hc => absurd hc hc2) (fun _ => ?_)
        refine a_iconst (pc := 13) dX9_in_13 (by decide) ?_
        refine a_goto (tgt := 18) (pc := 14) dX9_in_14 (by decide) ?_
        refine a_iretz (pc := 18) dX9_in_18 rfl rfl (Nat.le_of_ble_eq_true rfl) (by decide) ⟨rfl, ?_⟩
        refine a_iretz (pc := 9) dX9_isList_9 rfl rfl (Nat.le_of_ble_eq_true rfl) (by decide) ⟨rfl, ?_⟩
        refine a_if_eq (tgt := 33) (pc := 25) dX9_set_25 (by decide) (fun hc => absurd hc (by decide)) (fun _ => ?_)
        refine a_bipush (pc := 28) dX9_set_28 (by decide) (by decide +kernel) ?_
        refine a_goto (tgt := 34) (pc := 30) dX9_set_30 (by decide) ?_
        exact a_ireti (pc := 34) dX9_set_34 rfl rfl (Nat.le_of_ble_eq_true rfl) ⟨rfl, h⟩
theorem E_R_set {l1 l2 l3 : Int} {M : Mem} {Q : Int → Mem → Prop} (h : AW mX9_set 0 [(2, 275), (0, l1), (0, l2), (0, l3)] M Q) : Calls mX9_set [(2, 275), (0, l1), (0, l2), (0, l3)] S0 M Q := calls_of (by decide) (by decide) (Nat.le_of_ble_eq_true rfl) rfl h
set_option maxRecDepth 100000 in
set_option maxHeartbeats 4000000 in
theorem B_R_wrong_0 {l0 l1 l2 l3 : Int} {M : Mem} {Q : Int → Mem → Prop} (h : ((l0 < 0 → Q (-1) M) ∧ (¬ (l0 < 0) → ((11 < l0 → Q (-1) M) ∧ (¬ (11 < l0) → ((l1 < 0 → Q (-1) M) ∧ (¬ (l1 < 0) → ((11 < l1 → Q (-1) M) ∧ (¬ (11 < l1) → ((l2 < 0 → Q (-2) M) ∧ (¬ (l2 < 0) → ((1999 < l2 → Q (-2) M) ∧ (¬ (1999 < l2) → ((l3 < 0 → Q (-2) M) ∧ (¬ (l3 < 0) → ((6 < l3 → Q (-2) M) ∧ (¬ (6 < l3) → Q 0 M))))))))))))))))) : AW mX9_wrong 0 [(0, l0), (0, l1), (0, l2), (0, l3)] M Q := by
  refine a_iload_n (pc := 0) dX9_wrong_0 rfl ?_
  refine p_inlS (Ex := _) (As := [(0, l0)]) (st := []) (st1 := fun r => [(0, r)])  (pc := 1) dX9_wrong_1 ml_RX9_260 (by decide) (Nat.le_of_ble_eq_true rfl) rfl (fun _ => rfl) (by decide) (by decide) (Nat.le_of_ble_eq_true rfl) rfl ?_
  refine a_iload_n (pc := 0) dX9_isStop_0 rfl ?_
  refine a_i2l (pc := 1) dX9_isStop_1 ?_
  refine a_lconst (v := 0) (pc := 2) dX9_isStop_2 rfl ?_
  refine a_ldc2 (v := 11) (pc := 3) dX9_isStop_3 kc_RX9_90 (by decide) ?_
  refine p_inlS (Ex := _) (As := [(1, l0), (1, 0), (1, 11)]) (st := []) (st1 := fun r => [(0, r)])  (pc := 6) dX9_isStop_6 ml_RX9_92 (by decide) (Nat.le_of_ble_eq_true rfl) rfl (fun _ => rfl) (by decide) (by decide) (Nat.le_of_ble_eq_true rfl) rfl ?_
  refine a_lload_n (pc := 0) dX9_in_0 rfl ?_
  refine a_lload_n (pc := 1) dX9_in_1 rfl ?_
  refine a_lcmp_lt (tgt := 17) (pc := 2) dX9_in_2 dX9_in_3 (by decide) (fun hc1 => ?_) (fun hc1 => ?_)
  · replace h := h.1 hc1
    refine a_iconst (pc := 17) dX9_in_17 (by decide) ?_
    refine a_iretz (pc := 18) dX9_in_18 rfl rfl (Nat.le_of_ble_eq_true rfl) (by decide) ⟨rfl, ?_⟩
    refine a_iretz (pc := 9) dX9_isStop_9 rfl rfl (Nat.le_of_ble_eq_true rfl) (by decide) ⟨rfl, ?_⟩
    refine a_if_eq (tgt := 14) (pc := 4) dX9_wrong_4 (by decide) (fun _ => ?_) (fun hc => absurd (by decide) hc)
    refine a_iconst (pc := 14) dX9_wrong_14 (by decide) ?_
    refine a_goto (tgt := 43) (pc := 15) dX9_wrong_15 (by decide) ?_
    exact a_ireti (pc := 43) dX9_wrong_43 rfl rfl (Nat.le_of_ble_eq_true rfl) ⟨rfl, h⟩
  · replace h := h.2 hc1
    refine a_lload_n (pc := 6) dX9_in_6 rfl ?_
    refine a_lload (pc := 7) dX9_in_7 rfl ?_
    refine a_lcmp_gt (tgt := 17) (pc := 9) dX9_in_9 dX9_in_10 (by decide) (fun hc2 => ?_) (fun hc2 => ?_)
    · replace h := h.1 hc2
      refine a_iconst (pc := 17) dX9_in_17 (by decide) ?_
      refine a_iretz (pc := 18) dX9_in_18 rfl rfl (Nat.le_of_ble_eq_true rfl) (by decide) ⟨rfl, ?_⟩
      refine a_iretz (pc := 9) dX9_isStop_9 rfl rfl (Nat.le_of_ble_eq_true rfl) (by decide) ⟨rfl, ?_⟩
      refine a_if_eq (tgt := 14) (pc := 4) dX9_wrong_4 (by decide) (fun _ => ?_) (fun hc => absurd (by decide) hc)
      refine a_iconst (pc := 14) dX9_wrong_14 (by decide) ?_
      refine a_goto (tgt := 43) (pc := 15) dX9_wrong_15 (by decide) ?_
      exact a_ireti (pc := 43) dX9_wrong_43 rfl rfl (Nat.le_of_ble_eq_true rfl) ⟨rfl, h⟩
    · replace h := h.2 hc2
      refine a_iconst (pc := 13) dX9_in_13 (by decide) ?_
      refine a_goto (tgt := 18) (pc := 14) dX9_in_14 (by decide) ?_
      refine a_iretz (pc := 18) dX9_in_18 rfl rfl (Nat.le_of_ble_eq_true rfl) (by decide) ⟨rfl, ?_⟩
      refine a_iretz (pc := 9) dX9_isStop_9 rfl rfl (Nat.le_of_ble_eq_true rfl) (by decide) ⟨rfl, ?_⟩
      refine a_if_eq (tgt := 14) (pc := 4) dX9_wrong_4 (by decide) (fun hc => absurd hc (by decide)) (fun _ => ?_)
      refine a_iload_n (pc := 7) dX9_wrong_7 rfl ?_
      refine p_inlS (Ex := _) (As := [(0, l1)]) (st := []) (st1 := fun r => [(0, r)])  (pc := 8) dX9_wrong_8 ml_RX9_260 (by decide) (Nat.le_of_ble_eq_true rfl) rfl (fun _ => rfl) (by decide) (by decide) (Nat.le_of_ble_eq_true rfl) rfl ?_
      refine a_iload_n (pc := 0) dX9_isStop_0 rfl ?_
      refine a_i2l (pc := 1) dX9_isStop_1 ?_
      refine a_lconst (v := 0) (pc := 2) dX9_isStop_2 rfl ?_
      refine a_ldc2 (v := 11) (pc := 3) dX9_isStop_3 kc_RX9_90 (by decide) ?_
      refine p_inlS (Ex := _) (As := [(1, l1), (1, 0), (1, 11)]) (st := []) (st1 := fun r => [(0, r)])  (pc := 6) dX9_isStop_6 ml_RX9_92 (by decide) (Nat.le_of_ble_eq_true rfl) rfl (fun _ => rfl) (by decide) (by decide) (Nat.le_of_ble_eq_true rfl) rfl ?_
      refine a_lload_n (pc := 0) dX9_in_0 rfl ?_
      refine a_lload_n (pc := 1) dX9_in_1 rfl ?_
      refine a_lcmp_lt (tgt := 17) (pc := 2) dX9_in_2 dX9_in_3 (by decide) (fun hc3 => ?_) (fun hc3 => ?_)
      · replace h := h.1 hc3
        refine a_iconst (pc := 17) dX9_in_17 (by decide) ?_
        refine a_iretz (pc := 18) dX9_in_18 rfl rfl (Nat.le_of_ble_eq_true rfl) (by decide) ⟨rfl, ?_⟩
        refine a_iretz (pc := 9) dX9_isStop_9 rfl rfl (Nat.le_of_ble_eq_true rfl) (by decide) ⟨rfl, ?_⟩
        refine a_if_ne (tgt := 18) (pc := 11) dX9_wrong_11 (by decide) (fun hc => absurd rfl hc) (fun _ => ?_)
        refine a_iconst (pc := 14) dX9_wrong_14 (by decide) ?_
        refine a_goto (tgt := 43) (pc := 15) dX9_wrong_15 (by decide) ?_
        exact a_ireti (pc := 43) dX9_wrong_43 rfl rfl (Nat.le_of_ble_eq_true rfl) ⟨rfl, h⟩
      · replace h := h.2 hc3
        refine a_lload_n (pc := 6) dX9_in_6 rfl ?_
        refine a_lload (pc := 7) dX9_in_7 rfl ?_
        refine a_lcmp_gt (tgt := 17) (pc := 9) dX9_in_9 dX9_in_10 (by decide) (fun hc4 => ?_) (fun hc4 => ?_)
        · replace h := h.1 hc4
          refine a_iconst (pc := 17) dX9_in_17 (by decide) ?_
          refine a_iretz (pc := 18) dX9_in_18 rfl rfl (Nat.le_of_ble_eq_true rfl) (by decide) ⟨rfl, ?_⟩
          refine a_iretz (pc := 9) dX9_isStop_9 rfl rfl (Nat.le_of_ble_eq_true rfl) (by decide) ⟨rfl, ?_⟩
          refine a_if_ne (tgt := 18) (pc := 11) dX9_wrong_11 (by decide) (fun hc => absurd rfl hc) (fun _ => ?_)
          refine a_iconst (pc := 14) dX9_wrong_14 (by decide) ?_
          refine a_goto (tgt := 43) (pc := 15) dX9_wrong_15 (by decide) ?_
          exact a_ireti (pc := 43) dX9_wrong_43 rfl rfl (Nat.le_of_ble_eq_true rfl) ⟨rfl, h⟩
        · replace h := h.2 hc4
          refine a_iconst (pc := 13) dX9_in_13 (by decide) ?_
          refine a_goto (tgt := 18) (pc := 14) dX9_in_14 (by decide) ?_
          refine a_iretz (pc := 18) dX9_in_18 rfl rfl (Nat.le_of_ble_eq_true rfl) (by decide) ⟨rfl, ?_⟩
          refine a_iretz (pc := 9) dX9_isStop_9 rfl rfl (Nat.le_of_ble_eq_true rfl) (by decide) ⟨rfl, ?_⟩
          refine a_if_ne (tgt := 18) (pc := 11) dX9_wrong_11 (by decide) (fun _ => ?_) (fun hc => absurd hc (by decide))
          refine a_iload_n (pc := 18) dX9_wrong_18 rfl ?_
          refine p_inlS (Ex := _) (As := [(0, l2)]) (st := []) (st1 := fun r => [(0, r)])  (pc := 19) dX9_wrong_19 ml_RX9_273 (by decide) (Nat.le_of_ble_eq_true rfl) rfl (fun _ => rfl) (by decide) (by decide) (Nat.le_of_ble_eq_true rfl) rfl ?_
          refine a_iload_n (pc := 0) dX9_isMinute_0 rfl ?_
          refine a_i2l (pc := 1) dX9_isMinute_1 ?_
          refine a_lconst (v := 0) (pc := 2) dX9_isMinute_2 rfl ?_
          refine a_ldc2 (v := 1999) (pc := 3) dX9_isMinute_3 kc_RX9_96 (by decide) ?_
          refine p_inlS (Ex := _) (As := [(1, l2), (1, 0), (1, 1999)]) (st := []) (st1 := fun r => [(0, r)])  (pc := 6) dX9_isMinute_6 ml_RX9_92 (by decide) (Nat.le_of_ble_eq_true rfl) rfl (fun _ => rfl) (by decide) (by decide) (Nat.le_of_ble_eq_true rfl) rfl ?_
          refine a_lload_n (pc := 0) dX9_in_0 rfl ?_
          refine a_lload_n (pc := 1) dX9_in_1 rfl ?_
          refine a_lcmp_lt (tgt := 17) (pc := 2) dX9_in_2 dX9_in_3 (by decide) (fun hc5 => ?_) (fun hc5 => ?_)
          · replace h := h.1 hc5
            refine a_iconst (pc := 17) dX9_in_17 (by decide) ?_
            refine a_iretz (pc := 18) dX9_in_18 rfl rfl (Nat.le_of_ble_eq_true rfl) (by decide) ⟨rfl, ?_⟩
            refine a_iretz (pc := 9) dX9_isMinute_9 rfl rfl (Nat.le_of_ble_eq_true rfl) (by decide) ⟨rfl, ?_⟩
            refine a_if_eq (tgt := 37) (pc := 22) dX9_wrong_22 (by decide) (fun _ => ?_) (fun hc => absurd (by decide) hc)
            refine a_bipush (pc := 37) dX9_wrong_37 (by decide) (by decide +kernel) ?_
            refine a_goto (tgt := 43) (pc := 39) dX9_wrong_39 (by decide) ?_
            exact a_ireti (pc := 43) dX9_wrong_43 rfl rfl (Nat.le_of_ble_eq_true rfl) ⟨rfl, h⟩
          · replace h := h.2 hc5
            refine a_lload_n (pc := 6) dX9_in_6 rfl ?_
            refine a_lload (pc := 7) dX9_in_7 rfl ?_
            refine a_lcmp_gt (tgt := 17) (pc := 9) dX9_in_9 dX9_in_10 (by decide) (fun hc6 => ?_) (fun hc6 => ?_)
            · replace h := h.1 hc6
              refine a_iconst (pc := 17) dX9_in_17 (by decide) ?_
              refine a_iretz (pc := 18) dX9_in_18 rfl rfl (Nat.le_of_ble_eq_true rfl) (by decide) ⟨rfl, ?_⟩
              refine a_iretz (pc := 9) dX9_isMinute_9 rfl rfl (Nat.le_of_ble_eq_true rfl) (by decide) ⟨rfl, ?_⟩
              refine a_if_eq (tgt := 37) (pc := 22) dX9_wrong_22 (by decide) (fun _ => ?_) (fun hc => absurd (by decide) hc)
              refine a_bipush (pc := 37) dX9_wrong_37 (by decide) (by decide +kernel) ?_
              refine a_goto (tgt := 43) (pc := 39) dX9_wrong_39 (by decide) ?_
              exact a_ireti (pc := 43) dX9_wrong_43 rfl rfl (Nat.le_of_ble_eq_true rfl) ⟨rfl, h⟩
            · replace h := h.2 hc6
              refine a_iconst (pc := 13) dX9_in_13 (by decide) ?_
              refine a_goto (tgt := 18) (pc := 14) dX9_in_14 (by decide) ?_
              refine a_iretz (pc := 18) dX9_in_18 rfl rfl (Nat.le_of_ble_eq_true rfl) (by decide) ⟨rfl, ?_⟩
              refine a_iretz (pc := 9) dX9_isMinute_9 rfl rfl (Nat.le_of_ble_eq_true rfl) (by decide) ⟨rfl, ?_⟩
              refine a_if_eq (tgt := 37) (pc := 22) dX9_wrong_22 (by decide) (fun hc => absurd hc (by decide)) (fun _ => ?_)
              refine a_iload_n (pc := 25) dX9_wrong_25 rfl ?_
              refine a_i2l (pc := 26) dX9_wrong_26 ?_
              refine a_lconst (v := 0) (pc := 27) dX9_wrong_27 rfl ?_
              refine a_ldc2 (v := 6) (pc := 28) dX9_wrong_28 kc_RX9_276 (by decide) ?_
              refine p_inlS (Ex := _) (As := [(1, l3), (1, 0), (1, 6)]) (st := []) (st1 := fun r => [(0, r)])  (pc := 31) dX9_wrong_31 ml_RX9_92 (by decide) (Nat.le_of_ble_eq_true rfl) rfl (fun _ => rfl) (by decide) (by decide) (Nat.le_of_ble_eq_true rfl) rfl ?_
              refine a_lload_n (pc := 0) dX9_in_0 rfl ?_
              refine a_lload_n (pc := 1) dX9_in_1 rfl ?_
              refine a_lcmp_lt (tgt := 17) (pc := 2) dX9_in_2 dX9_in_3 (by decide) (fun hc7 => ?_) (fun hc7 => ?_)
              · replace h := h.1 hc7
                refine a_iconst (pc := 17) dX9_in_17 (by decide) ?_
                refine a_iretz (pc := 18) dX9_in_18 rfl rfl (Nat.le_of_ble_eq_true rfl) (by decide) ⟨rfl, ?_⟩
                refine a_if_ne (tgt := 42) (pc := 34) dX9_wrong_34 (by decide) (fun hc => absurd rfl hc) (fun _ => ?_)
                refine a_bipush (pc := 37) dX9_wrong_37 (by decide) (by decide +kernel) ?_
                refine a_goto (tgt := 43) (pc := 39) dX9_wrong_39 (by decide) ?_
                exact a_ireti (pc := 43) dX9_wrong_43 rfl rfl (Nat.le_of_ble_eq_true rfl) ⟨rfl, h⟩
              · replace h := h.2 hc7
                refine a_lload_n (pc := 6) dX9_in_6 rfl ?_
                refine a_lload (pc := 7) dX9_in_7 rfl ?_
                refine a_lcmp_gt (tgt := 17) (pc := 9) dX9_in_9 dX9_in_10 (by decide) (fun hc8 => ?_) (fun hc8 => ?_)
                · replace h := h.1 hc8
                  refine a_iconst (pc := 17) dX9_in_17 (by decide) ?_
                  refine a_iretz (pc := 18) dX9_in_18 rfl rfl (Nat.le_of_ble_eq_true rfl) (by decide) ⟨rfl, ?_⟩
                  refine a_if_ne (tgt := 42) (pc := 34) dX9_wrong_34 (by decide) (fun hc => absurd rfl hc) (fun _ => ?_)
                  refine a_bipush (pc := 37) dX9_wrong_37 (by decide) (by decide +kernel) ?_
                  refine a_goto (tgt := 43) (pc := 39) dX9_wrong_39 (by decide) ?_
                  exact a_ireti (pc := 43) dX9_wrong_43 rfl rfl (Nat.le_of_ble_eq_true rfl) ⟨rfl, h⟩
                · replace h := h.2 hc8
                  refine a_iconst (pc := 13) dX9_in_13 (by decide) ?_
                  refine a_goto (tgt := 18) (pc := 14) dX9_in_14 (by decide) ?_
                  refine a_iretz (pc := 18) dX9_in_18 rfl rfl (Nat.le_of_ble_eq_true rfl) (by decide) ⟨rfl, ?_⟩
                  refine a_if_ne (tgt := 42) (pc := 34) dX9_wrong_34 (by decide) (fun _ => ?_) (fun hc => absurd hc (by decide))
                  refine a_iconst (pc := 42) dX9_wrong_42 (by decide) ?_
                  exact a_ireti (pc := 43) dX9_wrong_43 rfl rfl (Nat.le_of_ble_eq_true rfl) ⟨rfl, h⟩
theorem E_R_wrong {l0 l1 l2 l3 : Int} {M : Mem} {Q : Int → Mem → Prop} (h : AW mX9_wrong 0 [(0, l0), (0, l1), (0, l2), (0, l3)] M Q) : Calls mX9_wrong [(0, l0), (0, l1), (0, l2), (0, l3)] S0 M Q := calls_of (by decide) (by decide) (Nat.le_of_ble_eq_true rfl) rfl h
set_option maxRecDepth 100000 in
set_option maxHeartbeats 4000000 in
theorem B_R_arrivalAt_0 {l1 l2 l3 : Int} {M : Mem} {Q : Int → Mem → Prop} (h : Calls mX9_placeOn [(2, 275), (0, l1), (0, l3)] S0 M (fun r1 M2 => ((r1 ≤ 0 → Q (-1) M2) ∧ (¬ (r1 ≤ 0) → Calls mX9_isRunning [(2, 275), (0, l1), (0, l2)] S0 M2 (fun r4 M5 => ((r4 = 0 → Q (-1) M5) ∧ (¬ r4 = 0 → (-2147483648 ≤ 36 * l1 ∧ 36 * l1 ≤ 2147483647) ∧ (-2147483648 ≤ 6 * l2 ∧ 6 * l2 ≤ 2147483647) ∧ (-2147483648 ≤ (36 * l1) + (6 * l2) ∧ (36 * l1) + (6 * l2) ≤ 2147483647) ∧ (-2147483648 ≤ ((36 * l1) + (6 * l2)) + r1 ∧ ((36 * l1) + (6 * l2)) + r1 ≤ 2147483647) ∧ ((0 : Int) ≤ ((36 * l1) + (6 * l2)) + r1 ∧ ((36 * l1) + (6 * l2)) + r1 < 288) ∧ Q (M5 281 (((36 * l1) + (6 * l2)) + r1)) M5))))))) : AW mX9_arrivalAt 0 [(2, 275), (0, l1), (0, l2), (0, l3), (9, 0)] M Q := by
  refine a_aload_n (pc := 0) dX9_arrivalAt_0 (by decide) rfl ?_
  refine a_iload_n (pc := 1) dX9_arrivalAt_1 rfl ?_
  refine a_iload_n (pc := 2) dX9_arrivalAt_2 rfl ?_
  refine p_callV (As := [(0, l1), (0, l3)]) (st := []) (st1 := fun r => [(0, r)])  (pc := 3) dX9_arrivalAt_3 ml_RX9_300 (by decide) s0_275 rfl (by decide) (Nat.le_of_ble_eq_true rfl) rfl (fun _ => rfl) h (fun r1 M2 h => ?_)
  refine a_istore (ls1 := [(2, 275), (0, l1), (0, l2), (0, l3), (0, r1)]) (pc := 6) dX9_arrivalAt_6 (by decide) (hp1 (t := 0) rfl (by decide)) rfl ?_
  refine a_iload (pc := 8) dX9_arrivalAt_8 rfl ?_
  refine a_if_le (tgt := 33) (pc := 10) dX9_arrivalAt_10 (by decide) (fun hc3 => ?_) (fun hc3 => ?_)
  · replace h := h.1 hc3
    refine a_iconst (pc := 33) dX9_arrivalAt_33 (by decide) ?_
    exact a_ireti (pc := 34) dX9_arrivalAt_34 rfl rfl (Nat.le_of_ble_eq_true rfl) ⟨rfl, h⟩
  · replace h := h.2 hc3
    refine a_aload_n (pc := 13) dX9_arrivalAt_13 (by decide) rfl ?_
    refine a_iload_n (pc := 14) dX9_arrivalAt_14 rfl ?_
    refine a_iload_n (pc := 15) dX9_arrivalAt_15 rfl ?_
    refine p_callV (As := [(0, l1), (0, l2)]) (st := []) (st1 := fun r => [(0, r)])  (pc := 16) dX9_arrivalAt_16 ml_RX9_108 (by decide) s0_275 rfl (by decide) (Nat.le_of_ble_eq_true rfl) rfl (fun _ => rfl) h (fun r4 M5 h => ?_)
    refine a_if_eq (tgt := 33) (pc := 19) dX9_arrivalAt_19 (by decide) (fun hc6 => ?_) (fun hc6 => ?_)
    · replace h := h.1 hc6
      refine a_iconst (pc := 33) dX9_arrivalAt_33 (by decide) ?_
      exact a_ireti (pc := 34) dX9_arrivalAt_34 rfl rfl (Nat.le_of_ble_eq_true rfl) ⟨rfl, h⟩
    · replace h := h.2 hc6
      refine a_aload_n (pc := 22) dX9_arrivalAt_22 (by decide) rfl ?_
      refine a_iload_n (pc := 23) dX9_arrivalAt_23 rfl ?_
      refine a_iload_n (pc := 24) dX9_arrivalAt_24 rfl ?_
      refine a_iload (pc := 25) dX9_arrivalAt_25 rfl ?_
      refine p_inlV (Ex := _) (As := [(0, l1), (0, l2), (0, r1)]) (st := []) (st1 := fun r => [(0, r)])  (pc := 27) dX9_arrivalAt_27 ml_RX9_120 (by decide) s0_275 rfl (by decide) (Nat.le_of_ble_eq_true rfl) rfl (fun _ => rfl) (by decide) (by decide) (Nat.le_of_ble_eq_true rfl) rfl ?_
      refine a_aload_n (pc := 0) dX9_minuteAt_0 (by decide) rfl ?_
      refine a_getR (y := 281) (pc := 1) dX9_minuteAt_1 fl_RX9_25 (by decide) s0_275 rfl rfl ?_
      refine a_bipush (pc := 4) dX9_minuteAt_4 (by decide) (by decide +kernel) ?_
      refine a_iload_n (pc := 6) dX9_minuteAt_6 rfl ?_
      have ho7 := h.1
      replace h := h.2
      refine a_imul (pc := 7) dX9_minuteAt_7 ho7 ?_
      refine a_bipush (pc := 8) dX9_minuteAt_8 (by decide) (by decide +kernel) ?_
      refine a_iload_n (pc := 10) dX9_minuteAt_10 rfl ?_
      have ho8 := h.1
      replace h := h.2
      refine a_imul (pc := 11) dX9_minuteAt_11 ho8 ?_
      have ho9 := h.1
      replace h := h.2
      refine a_iadd (pc := 12) dX9_minuteAt_12 ho9 ?_
      refine a_iload_n (pc := 13) dX9_minuteAt_13 rfl ?_
      have ho10 := h.1
      replace h := h.2
      refine a_iadd (pc := 14) dX9_minuteAt_14 ho10 ?_
      have ho11 := h.1
      replace h := h.2
      refine a_iald (pc := 15) dX9_minuteAt_15 (by decide) s0_281 ho11.1 ho11.2 ?_
      refine a_ireti (pc := 16) dX9_minuteAt_16 rfl rfl (Nat.le_of_ble_eq_true rfl) ⟨rfl, ?_⟩
      refine a_goto (tgt := 34) (pc := 30) dX9_arrivalAt_30 (by decide) ?_
      exact a_ireti (pc := 34) dX9_arrivalAt_34 rfl rfl (Nat.le_of_ble_eq_true rfl) ⟨rfl, h⟩
theorem E_R_arrivalAt {l1 l2 l3 : Int} {M : Mem} {Q : Int → Mem → Prop} (h : AW mX9_arrivalAt 0 [(2, 275), (0, l1), (0, l2), (0, l3), (9, 0)] M Q) : Calls mX9_arrivalAt [(2, 275), (0, l1), (0, l2), (0, l3)] S0 M Q := calls_of (by decide) (by decide) (Nat.le_of_ble_eq_true rfl) rfl h
set_option maxRecDepth 100000 in
set_option maxHeartbeats 4000000 in
theorem B_R_bareStops_0 {M : Mem} {Q : Int → Mem → Prop} (h : AW mX9_bareStops 4 [(2, 275), (0, 0), (0, 0), (9, 0), (9, 0)] M Q) : AW mX9_bareStops 0 [(2, 275), (9, 0), (9, 0), (9, 0), (9, 0)] M Q := by
  refine a_iconst (pc := 0) dX9_bareStops_0 (by decide) ?_
  refine a_istore_n (ls1 := [(2, 275), (0, 0), (9, 0), (9, 0), (9, 0)]) (pc := 1) dX9_bareStops_1 (by decide) (hp1 (t := 2) rfl (by decide)) rfl ?_
  refine a_iconst (pc := 2) dX9_bareStops_2 (by decide) ?_
  refine a_istore_n (ls1 := [(2, 275), (0, 0), (0, 0), (9, 0), (9, 0)]) (pc := 3) dX9_bareStops_3 (by decide) (hp1 (t := 0) rfl (by decide)) rfl ?_
  exact h
set_option maxRecDepth 100000 in
set_option maxHeartbeats 4000000 in
theorem B_R_bareStops_4 {l1 l2 : Int} {M : Mem} {Q : Int → Mem → Prop} (h : ((12 ≤ l2 → Q l1 M) ∧ (¬ (12 ≤ l2) → AW mX9_bareStops 15 [(2, 275), (0, l1), (0, l2), (0, 1), (0, 0)] M Q))) : AW mX9_bareStops 4 [(2, 275), (0, l1), (0, l2), (9, 0), (9, 0)] M Q := by
  refine a_iload_n (pc := 4) dX9_bareStops_4 rfl ?_
  refine a_bipush (pc := 5) dX9_bareStops_5 (by decide) (by decide +kernel) ?_
  refine a_icmp_ge (tgt := 68) (pc := 7) dX9_bareStops_7 (by decide) (fun hc1 => ?_) (fun hc1 => ?_)
  · replace h := h.1 hc1
    refine a_iload_n (pc := 68) dX9_bareStops_68 rfl ?_
    exact a_ireti (pc := 69) dX9_bareStops_69 rfl rfl (Nat.le_of_ble_eq_true rfl) ⟨rfl, h⟩
  · replace h := h.2 hc1
    refine a_iconst (pc := 10) dX9_bareStops_10 (by decide) ?_
    refine a_istore_n (ls1 := [(2, 275), (0, l1), (0, l2), (0, 1), (9, 0)]) (pc := 11) dX9_bareStops_11 (by decide) (hp1 (t := 0) rfl (by decide)) rfl ?_
    refine a_iconst (pc := 12) dX9_bareStops_12 (by decide) ?_
    refine a_istore (ls1 := [(2, 275), (0, l1), (0, l2), (0, 1), (0, 0)]) (pc := 13) dX9_bareStops_13 (by decide) (hp1 (t := 0) rfl (by decide)) rfl ?_
    exact h
set_option maxRecDepth 100000 in
set_option maxHeartbeats 4000000 in
theorem B_R_bareStops_15 {l1 l2 l3 l4 : Int} {M : Mem} {Q : Int → Mem → Prop} (h : (((M 275 0) ≤ l4 → ((l3 = 0 → (-2147483648 ≤ l1 + 0 ∧ l1 + 0 ≤ 2147483647) ∧ (-2147483648 ≤ l2 + 1 ∧ l2 + 1 ≤ 2147483647) ∧ AW mX9_bareStops 4 [(2, 275), (0, l1 + 0), (0, l2 + 1), (9, 0), (9, 0)] M Q) ∧ (¬ l3 = 0 → (-2147483648 ≤ l1 + 1 ∧ l1 + 1 ≤ 2147483647) ∧ (-2147483648 ≤ l2 + 1 ∧ l2 + 1 ≤ 2147483647) ∧ AW mX9_bareStops 4 [(2, 275), (0, l1 + 1), (0, l2 + 1), (9, 0), (9, 0)] M Q))) ∧ (¬ ((M 275 0) ≤ l4) → ((l3 = 0 → (-2147483648 ≤ l4 + 1 ∧ l4 + 1 ≤ 2147483647) ∧ AW mX9_bareStops 15 [(2, 275), (0, l1), (0, l2), (0, 0), (0, l4 + 1)] M Q) ∧ (¬ l3 = 0 → Calls mX9_placeOn [(2, 275), (0, l4), (0, l2)] S0 M (fun r9 M10 => ((0 ≤ r9 → (-2147483648 ≤ l4 + 1 ∧ l4 + 1 ≤ 2147483647) ∧ AW mX9_bareStops 15 [(2, 275), (0, l1), (0, l2), (0, 0), (0, l4 + 1)] M10 Q) ∧ (¬ (0 ≤ r9) → (-2147483648 ≤ l4 + 1 ∧ l4 + 1 ≤ 2147483647) ∧ AW mX9_bareStops 15 [(2, 275), (0, l1), (0, l2), (0, 1), (0, l4 + 1)] M10 Q)))))))) : AW mX9_bareStops 15 [(2, 275), (0, l1), (0, l2), (0, l3), (0, l4)] M Q := by
  refine a_iload (pc := 15) dX9_bareStops_15 rfl ?_
  refine a_aload_n (pc := 17) dX9_bareStops_17 (by decide) rfl ?_
  refine a_getI (y := 0) (pc := 18) dX9_bareStops_18 fl_RX9_98 (by decide) s0_275 (Or.inl rfl) rfl ?_
  refine a_icmp_ge (tgt := 50) (pc := 21) dX9_bareStops_21 (by decide) (fun hc1 => ?_) (fun hc1 => ?_)
  · replace h := h.1 hc1
    refine a_iload_n (pc := 50) dX9_bareStops_50 rfl ?_
    refine a_iload_n (pc := 51) dX9_bareStops_51 rfl ?_
    refine a_if_eq (tgt := 59) (pc := 52) dX9_bareStops_52 (by decide) (fun hc2 => ?_) (fun hc2 => ?_)
    · replace h := h.1 hc2
      refine a_iconst (pc := 59) dX9_bareStops_59 (by decide) ?_
      have ho3 := h.1
      replace h := h.2
      refine a_iadd (pc := 60) dX9_bareStops_60 ho3 ?_
      refine a_istore_n (ls1 := [(2, 275), (0, l1 + 0), (0, l2), (0, l3), (0, l4)]) (pc := 61) dX9_bareStops_61 (by decide) (hp1 (t := 2) rfl (by decide)) rfl ?_
      have ho4 := h.1
      replace h := h.2
      refine a_iinc (ls1 := [(2, 275), (0, l1 + 0), (0, l2 + 1), (0, l3), (0, l4)]) (pc := 62) dX9_bareStops_62 rfl (by decide) (hp1 (t := 0) rfl (by decide)) ho4 rfl ?_
      refine a_goto (tgt := 4) (pc := 65) dX9_bareStops_65 (by decide) ?_
      exact a_msk [true, true, true, false, false] rfl h
    · replace h := h.2 hc2
      refine a_iconst (pc := 55) dX9_bareStops_55 (by decide) ?_
      refine a_goto (tgt := 60) (pc := 56) dX9_bareStops_56 (by decide) ?_
      have ho5 := h.1
      replace h := h.2
      refine a_iadd (pc := 60) dX9_bareStops_60 ho5 ?_
      refine a_istore_n (ls1 := [(2, 275), (0, l1 + 1), (0, l2), (0, l3), (0, l4)]) (pc := 61) dX9_bareStops_61 (by decide) (hp1 (t := 2) rfl (by decide)) rfl ?_
      have ho6 := h.1
      replace h := h.2
      refine a_iinc (ls1 := [(2, 275), (0, l1 + 1), (0, l2 + 1), (0, l3), (0, l4)]) (pc := 62) dX9_bareStops_62 rfl (by decide) (hp1 (t := 0) rfl (by decide)) ho6 rfl ?_
      refine a_goto (tgt := 4) (pc := 65) dX9_bareStops_65 (by decide) ?_
      exact a_msk [true, true, true, false, false] rfl h
  · replace h := h.2 hc1
    refine a_iload_n (pc := 24) dX9_bareStops_24 rfl ?_
    refine a_if_eq (tgt := 42) (pc := 25) dX9_bareStops_25 (by decide) (fun hc7 => ?_) (fun hc7 => ?_)
    · replace h := h.1 hc7
      refine a_iconst (pc := 42) dX9_bareStops_42 (by decide) ?_
      refine a_istore_n (ls1 := [(2, 275), (0, l1), (0, l2), (0, 0), (0, l4)]) (pc := 43) dX9_bareStops_43 (by decide) (hp1 (t := 0) rfl (by decide)) rfl ?_
      have ho8 := h.1
      replace h := h.2
      refine a_iinc (ls1 := [(2, 275), (0, l1), (0, l2), (0, 0), (0, l4 + 1)]) (pc := 44) dX9_bareStops_44 rfl (by decide) (hp1 (t := 0) rfl (by decide)) ho8 rfl ?_
      refine a_goto (tgt := 15) (pc := 47) dX9_bareStops_47 (by decide) ?_
      exact h
    · replace h := h.2 hc7
      refine a_aload_n (pc := 28) dX9_bareStops_28 (by decide) rfl ?_
      refine a_iload (pc := 29) dX9_bareStops_29 rfl ?_
      refine a_iload_n (pc := 31) dX9_bareStops_31 rfl ?_
      refine p_callV (As := [(0, l4), (0, l2)]) (st := []) (st1 := fun r => [(0, r)])  (pc := 32) dX9_bareStops_32 ml_RX9_300 (by decide) s0_275 rfl (by decide) (Nat.le_of_ble_eq_true rfl) rfl (fun _ => rfl) h (fun r9 M10 h => ?_)
      refine a_if_ge (tgt := 42) (pc := 35) dX9_bareStops_35 (by decide) (fun hc11 => ?_) (fun hc11 => ?_)
      · replace h := h.1 hc11
        refine a_iconst (pc := 42) dX9_bareStops_42 (by decide) ?_
        refine a_istore_n (ls1 := [(2, 275), (0, l1), (0, l2), (0, 0), (0, l4)]) (pc := 43) dX9_bareStops_43 (by decide) (hp1 (t := 0) rfl (by decide)) rfl ?_
        have ho12 := h.1
        replace h := h.2
        refine a_iinc (ls1 := [(2, 275), (0, l1), (0, l2), (0, 0), (0, l4 + 1)]) (pc := 44) dX9_bareStops_44 rfl (by decide) (hp1 (t := 0) rfl (by decide)) ho12 rfl ?_
        refine a_goto (tgt := 15) (pc := 47) dX9_bareStops_47 (by decide) ?_
        exact h
      · replace h := h.2 hc11
        refine a_iconst (pc := 38) dX9_bareStops_38 (by decide) ?_
        refine a_goto (tgt := 43) (pc := 39) dX9_bareStops_39 (by decide) ?_
        refine a_istore_n (ls1 := [(2, 275), (0, l1), (0, l2), (0, 1), (0, l4)]) (pc := 43) dX9_bareStops_43 (by decide) (hp1 (t := 0) rfl (by decide)) rfl ?_
        have ho13 := h.1
        replace h := h.2
        refine a_iinc (ls1 := [(2, 275), (0, l1), (0, l2), (0, 1), (0, l4 + 1)]) (pc := 44) dX9_bareStops_44 rfl (by decide) (hp1 (t := 0) rfl (by decide)) ho13 rfl ?_
        refine a_goto (tgt := 15) (pc := 47) dX9_bareStops_47 (by decide) ?_
        exact h
theorem E_R_bareStops {M : Mem} {Q : Int → Mem → Prop} (h : AW mX9_bareStops 0 [(2, 275), (9, 0), (9, 0), (9, 0), (9, 0)] M Q) : Calls mX9_bareStops [(2, 275)] S0 M Q := calls_of (by decide) (by decide) (Nat.le_of_ble_eq_true rfl) rfl h
set_option maxRecDepth 100000 in
set_option maxHeartbeats 4000000 in
theorem B_R_departureAt_0 {l1 l2 l3 : Int} {M : Mem} {Q : Int → Mem → Prop} (h : Calls mX9_placeOn [(2, 275), (0, l1), (0, l3)] S0 M (fun r1 M2 => ((r1 < 0 → Q (-1) M2) ∧ (¬ (r1 < 0) → ((0 : Int) ≤ l1 ∧ l1 < 8) ∧ (-2147483648 ≤ (M2 277 l1) - 1 ∧ (M2 277 l1) - 1 ≤ 2147483647) ∧ ((((M2 277 l1) - 1) ≤ r1 → Q (-1) M2) ∧ (¬ (((M2 277 l1) - 1) ≤ r1) → Calls mX9_isRunning [(2, 275), (0, l1), (0, l2)] S0 M2 (fun r7 M8 => ((r7 = 0 → Q (-1) M8) ∧ (¬ r7 = 0 → (-2147483648 ≤ 36 * l1 ∧ 36 * l1 ≤ 2147483647) ∧ (-2147483648 ≤ 6 * l2 ∧ 6 * l2 ≤ 2147483647) ∧ (-2147483648 ≤ (36 * l1) + (6 * l2) ∧ (36 * l1) + (6 * l2) ≤ 2147483647) ∧ (-2147483648 ≤ ((36 * l1) + (6 * l2)) + r1 ∧ ((36 * l1) + (6 * l2)) + r1 ≤ 2147483647) ∧ ((0 : Int) ≤ ((36 * l1) + (6 * l2)) + r1 ∧ ((36 * l1) + (6 * l2)) + r1 < 288) ∧ Q (M8 281 (((36 * l1) + (6 * l2)) + r1)) M8))))))))) : AW mX9_departureAt 0 [(2, 275), (0, l1), (0, l2), (0, l3), (9, 0)] M Q := by
  refine a_aload_n (pc := 0) dX9_departureAt_0 (by decide) rfl ?_
  refine a_iload_n (pc := 1) dX9_departureAt_1 rfl ?_
  refine a_iload_n (pc := 2) dX9_departureAt_2 rfl ?_
  refine p_callV (As := [(0, l1), (0, l3)]) (st := []) (st1 := fun r => [(0, r)])  (pc := 3) dX9_departureAt_3 ml_RX9_300 (by decide) s0_275 rfl (by decide) (Nat.le_of_ble_eq_true rfl) rfl (fun _ => rfl) h (fun r1 M2 h => ?_)
  refine a_istore (ls1 := [(2, 275), (0, l1), (0, l2), (0, l3), (0, r1)]) (pc := 6) dX9_departureAt_6 (by decide) (hp1 (t := 0) rfl (by decide)) rfl ?_
  refine a_iload (pc := 8) dX9_departureAt_8 rfl ?_
  refine a_if_lt (tgt := 46) (pc := 10) dX9_departureAt_10 (by decide) (fun hc3 => ?_) (fun hc3 => ?_)
  · replace h := h.1 hc3
    refine a_iconst (pc := 46) dX9_departureAt_46 (by decide) ?_
    exact a_ireti (pc := 47) dX9_departureAt_47 rfl rfl (Nat.le_of_ble_eq_true rfl) ⟨rfl, h⟩
  · replace h := h.2 hc3
    refine a_iload (pc := 13) dX9_departureAt_13 rfl ?_
    refine a_aload_n (pc := 15) dX9_departureAt_15 (by decide) rfl ?_
    refine a_getR (y := 277) (pc := 16) dX9_departureAt_16 fl_RX9_13 (by decide) s0_275 rfl rfl ?_
    refine a_iload_n (pc := 19) dX9_departureAt_19 rfl ?_
    have ho4 := h.1
    replace h := h.2
    refine a_iald (pc := 20) dX9_departureAt_20 (by decide) s0_277 ho4.1 ho4.2 ?_
    refine a_iconst (pc := 21) dX9_departureAt_21 (by decide) ?_
    have ho5 := h.1
    replace h := h.2
    refine a_isub (pc := 22) dX9_departureAt_22 ho5 ?_
    refine a_icmp_ge (tgt := 46) (pc := 23) dX9_departureAt_23 (by decide) (fun hc6 => ?_) (fun hc6 => ?_)
    · replace h := h.1 hc6
      refine a_iconst (pc := 46) dX9_departureAt_46 (by decide) ?_
      exact a_ireti (pc := 47) dX9_departureAt_47 rfl rfl (Nat.le_of_ble_eq_true rfl) ⟨rfl, h⟩
    · replace h := h.2 hc6
      refine a_aload_n (pc := 26) dX9_departureAt_26 (by decide) rfl ?_
      refine a_iload_n (pc := 27) dX9_departureAt_27 rfl ?_
      refine a_iload_n (pc := 28) dX9_departureAt_28 rfl ?_
      refine p_callV (As := [(0, l1), (0, l2)]) (st := []) (st1 := fun r => [(0, r)])  (pc := 29) dX9_departureAt_29 ml_RX9_108 (by decide) s0_275 rfl (by decide) (Nat.le_of_ble_eq_true rfl) rfl (fun _ => rfl) h (fun r7 M8 h => ?_)
      refine a_if_eq (tgt := 46) (pc := 32) dX9_departureAt_32 (by decide) (fun hc9 => ?_) (fun hc9 => ?_)
      · replace h := h.1 hc9
        refine a_iconst (pc := 46) dX9_departureAt_46 (by decide) ?_
        exact a_ireti (pc := 47) dX9_departureAt_47 rfl rfl (Nat.le_of_ble_eq_true rfl) ⟨rfl, h⟩
      · replace h := h.2 hc9
        refine a_aload_n (pc := 35) dX9_departureAt_35 (by decide) rfl ?_
        refine a_iload_n (pc := 36) dX9_departureAt_36 rfl ?_
        refine a_iload_n (pc := 37) dX9_departureAt_37 rfl ?_
        refine a_iload (pc := 38) dX9_departureAt_38 rfl ?_
        refine p_inlV (Ex := _) (As := [(0, l1), (0, l2), (0, r1)]) (st := []) (st1 := fun r => [(0, r)])  (pc := 40) dX9_departureAt_40 ml_RX9_120 (by decide) s0_275 rfl (by decide) (Nat.le_of_ble_eq_true rfl) rfl (fun _ => rfl) (by decide) (by decide) (Nat.le_of_ble_eq_true rfl) rfl ?_
        refine a_aload_n (pc := 0) dX9_minuteAt_0 (by decide) rfl ?_
        refine a_getR (y := 281) (pc := 1) dX9_minuteAt_1 fl_RX9_25 (by decide) s0_275 rfl rfl ?_
        refine a_bipush (pc := 4) dX9_minuteAt_4 (by decide) (by decide +kernel) ?_
        refine a_iload_n (pc := 6) dX9_minuteAt_6 rfl ?_
        have ho10 := h.1
        replace h := h.2
        refine a_imul (pc := 7) dX9_minuteAt_7 ho10 ?_
        refine a_bipush (pc := 8) dX9_minuteAt_8 (by decide) (by decide +kernel) ?_
        refine a_iload_n (pc := 10) dX9_minuteAt_10 rfl ?_
        have ho11 := h.1
        replace h := h.2
        refine a_imul (pc := 11) dX9_minuteAt_11 ho11 ?_
        have ho12 := h.1
        replace h := h.2
        refine a_iadd (pc := 12) dX9_minuteAt_12 ho12 ?_
        refine a_iload_n (pc := 13) dX9_minuteAt_13 rfl ?_
        have ho13 := h.1
        replace h := h.2
        refine a_iadd (pc := 14) dX9_minuteAt_14 ho13 ?_
        have ho14 := h.1
        replace h := h.2
        refine a_iald (pc := 15) dX9_minuteAt_15 (by decide) s0_281 ho14.1 ho14.2 ?_
        refine a_ireti (pc := 16) dX9_minuteAt_16 rfl rfl (Nat.le_of_ble_eq_true rfl) ⟨rfl, ?_⟩
        refine a_goto (tgt := 47) (pc := 43) dX9_departureAt_43 (by decide) ?_
        exact a_ireti (pc := 47) dX9_departureAt_47 rfl rfl (Nat.le_of_ble_eq_true rfl) ⟨rfl, h⟩
theorem E_R_departureAt {l1 l2 l3 : Int} {M : Mem} {Q : Int → Mem → Prop} (h : AW mX9_departureAt 0 [(2, 275), (0, l1), (0, l2), (0, l3), (9, 0)] M Q) : Calls mX9_departureAt [(2, 275), (0, l1), (0, l2), (0, l3)] S0 M Q := calls_of (by decide) (by decide) (Nat.le_of_ble_eq_true rfl) rfl h
set_option maxRecDepth 100000 in
set_option maxHeartbeats 4000000 in
theorem B_R_drop_0 {l1 : Int} {M : Mem} {Q : Int → Mem → Prop} (h : (-2147483648 ≤ (M 275 0) - 1 ∧ (M 275 0) - 1 ≤ 2147483647) ∧ ((l1 < 0 → Q (-1) (up2 M 275 8 0)) ∧ (¬ (l1 < 0) → ((((M 275 0) - 1) < l1 → Q (-1) (up2 M 275 8 0)) ∧ (¬ (((M 275 0) - 1) < l1) → ((0 : Int) ≤ l1 ∧ l1 < 8) ∧ ((¬ (M 279 l1) = 0 → (-2147483648 ≤ (M 279 l1) - 1 ∧ (M 279 l1) - 1 ≤ 2147483647) ∧ Q ((M 279 l1) - 1) (up2 (up2 M 275 8 0) 279 l1 ((M 279 l1) - 1))) ∧ ((M 279 l1) = 0 → Q (-3) (up2 M 275 8 0)))))))) : AW mX9_drop 0 [(2, 275), (0, l1)] M Q := by
  refine a_aload_n (pc := 0) dX9_drop_0 (by decide) rfl ?_
  refine a_iconst (pc := 1) dX9_drop_1 (by decide) ?_
  refine a_putI (y := 8) (pc := 2) dX9_drop_2 fl_RX9_87 (by decide) s0_275 rfl rfl (tyX9_ok 8 (by decide)) rfl ?_
  refine a_aload_n (pc := 5) dX9_drop_5 (by decide) rfl ?_
  refine a_iload_n (pc := 6) dX9_drop_6 rfl ?_
  refine p_inlV (Ex := _) (As := [(0, l1)]) (st := []) (st1 := fun r => [(0, r)])  (pc := 7) dX9_drop_7 ml_RX9_101 (by decide) s0_275 rfl (by decide) (Nat.le_of_ble_eq_true rfl) rfl (fun _ => rfl) (by decide) (by decide) (Nat.le_of_ble_eq_true rfl) rfl ?_
  refine a_iload_n (pc := 0) dX9_isLine_0 rfl ?_
  refine a_i2l (pc := 1) dX9_isLine_1 ?_
  refine a_lconst (v := 0) (pc := 2) dX9_isLine_2 rfl ?_
  refine a_aload_n (pc := 3) dX9_isLine_3 (by decide) rfl ?_
  refine a_getI (y := 0) (pc := 4) dX9_isLine_4 fl_RX9_98 (by decide) s0_275 (Or.inl rfl) rfl ?_
  refine a_eq (y := M 275 0) rfl ?_
  refine a_iconst (pc := 7) dX9_isLine_7 (by decide) ?_
  have ho1 := h.1
  replace h := h.2
  refine a_isub (pc := 8) dX9_isLine_8 ho1 ?_
  refine a_i2l (pc := 9) dX9_isLine_9 ?_
  refine p_inlS (Ex := _) (As := [(1, l1), (1, 0), (1, (M 275 0) - 1)]) (st := []) (st1 := fun r => [(0, r)])  (pc := 10) dX9_isLine_10 ml_RX9_92 (by decide) (Nat.le_of_ble_eq_true rfl) rfl (fun _ => rfl) (by decide) (by decide) (Nat.le_of_ble_eq_true rfl) rfl ?_
  refine a_lload_n (pc := 0) dX9_in_0 rfl ?_
  refine a_lload_n (pc := 1) dX9_in_1 rfl ?_
  refine a_lcmp_lt (tgt := 17) (pc := 2) dX9_in_2 dX9_in_3 (by decide) (fun hc2 => ?_) (fun hc2 => ?_)
  · replace h := h.1 hc2
    refine a_iconst (pc := 17) dX9_in_17 (by decide) ?_
    refine a_iretz (pc := 18) dX9_in_18 rfl rfl (Nat.le_of_ble_eq_true rfl) (by decide) ⟨rfl, ?_⟩
    refine a_iretz (pc := 13) dX9_isLine_13 rfl rfl (Nat.le_of_ble_eq_true rfl) (by decide) ⟨rfl, ?_⟩
    refine a_if_ne (tgt := 15) (pc := 10) dX9_drop_10 (by decide) (fun hc => absurd rfl hc) (fun _ => ?_)
    refine a_iconst (pc := 13) dX9_drop_13 (by decide) ?_
    exact a_ireti (pc := 14) dX9_drop_14 rfl rfl (Nat.le_of_ble_eq_true rfl) ⟨rfl, h⟩
  · replace h := h.2 hc2
    refine a_lload_n (pc := 6) dX9_in_6 rfl ?_
    refine a_lload (pc := 7) dX9_in_7 rfl ?_
    refine a_lcmp_gt (tgt := 17) (pc := 9) dX9_in_9 dX9_in_10 (by decide) (fun hc3 => ?_) (fun hc3 => ?_)
    · replace h := h.1 hc3
      refine a_iconst (pc := 17) dX9_in_17 (by decide) ?_
      refine a_iretz (pc := 18) dX9_in_18 rfl rfl (Nat.le_of_ble_eq_true rfl) (by decide) ⟨rfl, ?_⟩
      refine a_iretz (pc := 13) dX9_isLine_13 rfl rfl (Nat.le_of_ble_eq_true rfl) (by decide) ⟨rfl, ?_⟩
      refine a_if_ne (tgt := 15) (pc := 10) dX9_drop_10 (by decide) (fun hc => absurd rfl hc) (fun _ => ?_)
      refine a_iconst (pc := 13) dX9_drop_13 (by decide) ?_
      exact a_ireti (pc := 14) dX9_drop_14 rfl rfl (Nat.le_of_ble_eq_true rfl) ⟨rfl, h⟩
    · replace h := h.2 hc3
      refine a_iconst (pc := 13) dX9_in_13 (by decide) ?_
      refine a_goto (tgt := 18) (pc := 14) dX9_in_14 (by decide) ?_
      refine a_iretz (pc := 18) dX9_in_18 rfl rfl (Nat.le_of_ble_eq_true rfl) (by decide) ⟨rfl, ?_⟩
      refine a_iretz (pc := 13) dX9_isLine_13 rfl rfl (Nat.le_of_ble_eq_true rfl) (by decide) ⟨rfl, ?_⟩
      refine a_if_ne (tgt := 15) (pc := 10) dX9_drop_10 (by decide) (fun _ => ?_) (fun hc => absurd hc (by decide))
      refine a_aload_n (pc := 15) dX9_drop_15 (by decide) rfl ?_
      refine a_getR (y := 279) (pc := 16) dX9_drop_16 fl_RX9_19 (by decide) s0_275 rfl rfl ?_
      refine a_iload_n (pc := 19) dX9_drop_19 rfl ?_
      have ho4 := h.1
      replace h := h.2
      refine a_iald (pc := 20) dX9_drop_20 (by decide) s0_279 ho4.1 ho4.2 ?_
      refine a_eq (y := M 279 l1) rfl ?_
      refine a_if_ne (tgt := 27) (pc := 21) dX9_drop_21 (by decide) (fun hc5 => ?_) (fun hc5 => ?_)
      · replace h := h.1 hc5
        refine a_aload_n (pc := 27) dX9_drop_27 (by decide) rfl ?_
        refine a_getR (y := 279) (pc := 28) dX9_drop_28 fl_RX9_19 (by decide) s0_275 rfl rfl ?_
        refine a_iload_n (pc := 31) dX9_drop_31 rfl ?_
        refine a_dup2 (pc := 32) dX9_drop_32 n01 n21 ?_
        refine a_iald (pc := 33) dX9_drop_33 (by decide) s0_279 ho4.1 ho4.2 ?_
        refine a_eq (y := M 279 l1) rfl ?_
        refine a_iconst (pc := 34) dX9_drop_34 (by decide) ?_
        have ho6 := h.1
        replace h := h.2
        refine a_isub (pc := 35) dX9_drop_35 ho6 ?_
        refine a_iast (pc := 36) dX9_drop_36 (by decide) s0_279 ho4.1 ho4.2 ?_
        refine a_aload_n (pc := 37) dX9_drop_37 (by decide) rfl ?_
        refine a_getR (y := 279) (pc := 38) dX9_drop_38 fl_RX9_19 (by decide) s0_275 rfl rfl ?_
        refine a_iload_n (pc := 41) dX9_drop_41 rfl ?_
        refine a_iald (pc := 42) dX9_drop_42 (by decide) s0_279 ho4.1 ho4.2 ?_
        refine a_eq (y := (M 279 l1) - 1) (by simp [up2]) ?_
        exact a_ireti (pc := 43) dX9_drop_43 rfl rfl (Nat.le_of_ble_eq_true rfl) ⟨rfl, h⟩
      · replace h := h.2 hc5
        refine a_bipush (pc := 24) dX9_drop_24 (by decide) (by decide +kernel) ?_
        exact a_ireti (pc := 26) dX9_drop_26 rfl rfl (Nat.le_of_ble_eq_true rfl) ⟨rfl, h⟩
theorem E_R_drop {l1 : Int} {M : Mem} {Q : Int → Mem → Prop} (h : AW mX9_drop 0 [(2, 275), (0, l1)] M Q) : Calls mX9_drop [(2, 275), (0, l1)] S0 M Q := calls_of (by decide) (by decide) (Nat.le_of_ble_eq_true rfl) rfl h
