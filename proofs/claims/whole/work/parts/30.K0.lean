set_option maxRecDepth 100000 in
set_option maxHeartbeats 4000000 in
theorem B_Arrays_fill_1_0 {l0 l1 : Int} (ha0 : isA l0 12) {M : Mem} {Q : Int → Mem → Prop} (h : AW mJ7_fill_53178 5 [(2, l0), (0, l1), (0, 0), (0, 12)] M Q) : AW mJ7_fill_53178 0 [(2, l0), (0, l1), (9, 0), (9, 0)] M Q := by
  refine a_iconst (pc := 0) dJ7_fill_53178_0 (by decide) ?_
  refine a_istore_n (ls1 := [(2, l0), (0, l1), (0, 0), (9, 0)]) (pc := 1) dJ7_fill_53178_1 (by decide) (hp1 (t := 0) rfl (by decide)) rfl ?_
  refine a_aload_n (pc := 2) dJ7_fill_53178_2 ha0.1 rfl ?_
  refine a_alen (pc := 3) dJ7_fill_53178_3 ha0.1 ha0.2 (by decide) ?_
  refine a_eq (y := 12) rfl ?_
  refine a_istore_n (ls1 := [(2, l0), (0, l1), (0, 0), (0, 12)]) (pc := 4) dJ7_fill_53178_4 (by decide) (hp1 (t := 0) rfl (by decide)) rfl ?_
  exact h
set_option maxRecDepth 100000 in
set_option maxHeartbeats 4000000 in
theorem B_Arrays_fill_1_5 {l0 l1 l2 l3 : Int} (ha0 : isA l0 12) {M : Mem} {Q : Int → Mem → Prop} (h : ((l3 ≤ l2 → Q 0 M) ∧ (¬ (l3 ≤ l2) → ((0 : Int) ≤ l2 ∧ l2 < 12) ∧ (-2147483648 ≤ l2 + 1 ∧ l2 + 1 ≤ 2147483647) ∧ AW mJ7_fill_53178 5 [(2, l0), (0, l1), (0, l2 + 1), (0, l3)] (up2 M l0 l2 l1) Q))) : AW mJ7_fill_53178 5 [(2, l0), (0, l1), (0, l2), (0, l3)] M Q := by
  refine a_iload_n (pc := 5) dJ7_fill_53178_5 rfl ?_
  refine a_iload_n (pc := 6) dJ7_fill_53178_6 rfl ?_
  refine a_icmp_ge (tgt := 20) (pc := 7) dJ7_fill_53178_7 (by decide) (fun hc1 => ?_) (fun hc1 => ?_)
  · replace h := h.1 hc1
    exact a_vret (pc := 20) dJ7_fill_53178_20 rfl rfl (Nat.le_of_ble_eq_true rfl) ⟨rfl, h⟩
  · replace h := h.2 hc1
    refine a_aload_n (pc := 10) dJ7_fill_53178_10 ha0.1 rfl ?_
    refine a_iload_n (pc := 11) dJ7_fill_53178_11 rfl ?_
    refine a_iload_n (pc := 12) dJ7_fill_53178_12 rfl ?_
    have ho2 := h.1
    replace h := h.2
    refine a_iast (pc := 13) dJ7_fill_53178_13 ha0.1 ha0.2 ho2.1 ho2.2 ?_
    have ho3 := h.1
    replace h := h.2
    refine a_iinc (ls1 := [(2, l0), (0, l1), (0, l2 + 1), (0, l3)]) (pc := 14) dJ7_fill_53178_14 rfl (by decide) (hp1 (t := 0) rfl (by decide)) ho3 rfl ?_
    refine a_goto (tgt := 5) (pc := 17) dJ7_fill_53178_17 (by decide) ?_
    exact h
theorem E_Arrays_fill_1 {l0 l1 : Int} {M : Mem} {Q : Int → Mem → Prop} (h : AW mJ7_fill_53178 0 [(2, l0), (0, l1), (9, 0), (9, 0)] M Q) : Calls mJ7_fill_53178 [(2, l0), (0, l1)] S0 M Q := calls_of (by decide) (by decide) (Nat.le_of_ble_eq_true rfl) rfl h
set_option maxRecDepth 100000 in
set_option maxHeartbeats 4000000 in
theorem B_Arrays_fill_2_0 {l0 l1 : Int} (ha0 : isA l0 20) {M : Mem} {Q : Int → Mem → Prop} (h : AW mJ7_fill_53178 5 [(2, l0), (0, l1), (0, 0), (0, 20)] M Q) : AW mJ7_fill_53178 0 [(2, l0), (0, l1), (9, 0), (9, 0)] M Q := by
  refine a_iconst (pc := 0) dJ7_fill_53178_0 (by decide) ?_
  refine a_istore_n (ls1 := [(2, l0), (0, l1), (0, 0), (9, 0)]) (pc := 1) dJ7_fill_53178_1 (by decide) (hp1 (t := 0) rfl (by decide)) rfl ?_
  refine a_aload_n (pc := 2) dJ7_fill_53178_2 ha0.1 rfl ?_
  refine a_alen (pc := 3) dJ7_fill_53178_3 ha0.1 ha0.2 (by decide) ?_
  refine a_eq (y := 20) rfl ?_
  refine a_istore_n (ls1 := [(2, l0), (0, l1), (0, 0), (0, 20)]) (pc := 4) dJ7_fill_53178_4 (by decide) (hp1 (t := 0) rfl (by decide)) rfl ?_
  exact h
set_option maxRecDepth 100000 in
set_option maxHeartbeats 4000000 in
theorem B_Arrays_fill_2_5 {l0 l1 l2 l3 : Int} (ha0 : isA l0 20) {M : Mem} {Q : Int → Mem → Prop} (h : ((l3 ≤ l2 → Q 0 M) ∧ (¬ (l3 ≤ l2) → ((0 : Int) ≤ l2 ∧ l2 < 20) ∧ (-2147483648 ≤ l2 + 1 ∧ l2 + 1 ≤ 2147483647) ∧ AW mJ7_fill_53178 5 [(2, l0), (0, l1), (0, l2 + 1), (0, l3)] (up2 M l0 l2 l1) Q))) : AW mJ7_fill_53178 5 [(2, l0), (0, l1), (0, l2), (0, l3)] M Q := by
  refine a_iload_n (pc := 5) dJ7_fill_53178_5 rfl ?_
  refine a_iload_n (pc := 6) dJ7_fill_53178_6 rfl ?_
  refine a_icmp_ge (tgt := 20) (pc := 7) dJ7_fill_53178_7 (by decide) (fun hc1 => ?_) (fun hc1 => ?_)
  · replace h := h.1 hc1
    exact a_vret (pc := 20) dJ7_fill_53178_20 rfl rfl (Nat.le_of_ble_eq_true rfl) ⟨rfl, h⟩
  · replace h := h.2 hc1
    refine a_aload_n (pc := 10) dJ7_fill_53178_10 ha0.1 rfl ?_
    refine a_iload_n (pc := 11) dJ7_fill_53178_11 rfl ?_
    refine a_iload_n (pc := 12) dJ7_fill_53178_12 rfl ?_
    have ho2 := h.1
    replace h := h.2
    refine a_iast (pc := 13) dJ7_fill_53178_13 ha0.1 ha0.2 ho2.1 ho2.2 ?_
    have ho3 := h.1
    replace h := h.2
    refine a_iinc (ls1 := [(2, l0), (0, l1), (0, l2 + 1), (0, l3)]) (pc := 14) dJ7_fill_53178_14 rfl (by decide) (hp1 (t := 0) rfl (by decide)) ho3 rfl ?_
    refine a_goto (tgt := 5) (pc := 17) dJ7_fill_53178_17 (by decide) ?_
    exact h
theorem E_Arrays_fill_2 {l0 l1 : Int} {M : Mem} {Q : Int → Mem → Prop} (h : AW mJ7_fill_53178 0 [(2, l0), (0, l1), (9, 0), (9, 0)] M Q) : Calls mJ7_fill_53178 [(2, l0), (0, l1)] S0 M Q := calls_of (by decide) (by decide) (Nat.le_of_ble_eq_true rfl) rfl h
set_option maxRecDepth 100000 in
set_option maxHeartbeats 4000000 in
theorem B_Board_insert_0 {l1 : Int} {M : Mem} {Q : Int → Mem → Prop} (h : (((M 261 2) < 48 → AW mX0_insert 18 [(2, 261), (0, l1), (0, M 261 2)] M Q) ∧ (¬ ((M 261 2) < 48) → Q 0 M))) : AW mX0_insert 0 [(2, 261), (0, l1), (9, 0)] M Q := by
  refine a_aload_n (pc := 0) dX0_insert_0 (by decide) rfl ?_
  refine a_getI (y := 2) (pc := 1) dX0_insert_1 fl_RX0_19 (by decide) s0_261 (Or.inl rfl) rfl ?_
  refine a_aload_n (pc := 4) dX0_insert_4 (by decide) rfl ?_
  refine a_getR (y := 262) (pc := 5) dX0_insert_5 fl_RX0_15 (by decide) s0_261 rfl rfl ?_
  refine a_alen (pc := 8) dX0_insert_8 (by decide) s0_262 (by decide) ?_
  refine a_eq (y := 48) rfl ?_
  refine a_icmp_lt (tgt := 13) (pc := 9) dX0_insert_9 (by decide) (fun hc1 => ?_) (fun hc1 => ?_)
  · replace h := h.1 hc1
    refine a_aload_n (pc := 13) dX0_insert_13 (by decide) rfl ?_
    refine a_getI (y := 2) (pc := 14) dX0_insert_14 fl_RX0_19 (by decide) s0_261 (Or.inl rfl) rfl ?_
    refine a_istore_n (ls1 := [(2, 261), (0, l1), (0, M 261 2)]) (pc := 17) dX0_insert_17 (by decide) (hp1 (t := 0) rfl (by decide)) rfl ?_
    exact h
  · replace h := h.2 hc1
    exact a_vret (pc := 12) dX0_insert_12 rfl rfl (Nat.le_of_ble_eq_true rfl) ⟨rfl, h⟩
set_option maxRecDepth 100000 in
set_option maxHeartbeats 4000000 in
theorem B_Board_insert_18 {l1 l2 : Int} {M : Mem} {Q : Int → Mem → Prop} (h : ((l2 ≤ 0 → ((0 : Int) ≤ l2 ∧ l2 < 48) ∧ (-2147483648 ≤ (M 261 2) + 1 ∧ (M 261 2) + 1 ≤ 2147483647) ∧ Q 0 (up2 (up2 M 262 l2 l1) 261 2 ((M 261 2) + 1))) ∧ (¬ (l2 ≤ 0) → (-2147483648 ≤ l2 - 1 ∧ l2 - 1 ≤ 2147483647) ∧ ((0 : Int) ≤ l2 - 1 ∧ l2 - 1 < 48) ∧ (((M 262 (l2 - 1)) ≤ l1 → ((0 : Int) ≤ l2 ∧ l2 < 48) ∧ (-2147483648 ≤ (M 261 2) + 1 ∧ (M 261 2) + 1 ≤ 2147483647) ∧ Q 0 (up2 (up2 M 262 l2 l1) 261 2 ((M 261 2) + 1))) ∧ (¬ ((M 262 (l2 - 1)) ≤ l1) → ((0 : Int) ≤ l2 ∧ l2 < 48) ∧ (-2147483648 ≤ l2 + (-1) ∧ l2 + (-1) ≤ 2147483647) ∧ AW mX0_insert 18 [(2, 261), (0, l1), (0, l2 + (-1))] (up2 M 262 l2 (M 262 (l2 - 1))) Q))))) : AW mX0_insert 18 [(2, 261), (0, l1), (0, l2)] M Q := by
  refine a_iload_n (pc := 18) dX0_insert_18 rfl ?_
  refine a_if_le (tgt := 54) (pc := 19) dX0_insert_19 (by decide) (fun hc1 => ?_) (fun hc1 => ?_)
  · replace h := h.1 hc1
    refine a_aload_n (pc := 54) dX0_insert_54 (by decide) rfl ?_
    refine a_getR (y := 262) (pc := 55) dX0_insert_55 fl_RX0_15 (by decide) s0_261 rfl rfl ?_
    refine a_iload_n (pc := 58) dX0_insert_58 rfl ?_
    refine a_iload_n (pc := 59) dX0_insert_59 rfl ?_
    have ho2 := h.1
    replace h := h.2
    refine a_iast (pc := 60) dX0_insert_60 (by decide) s0_262 ho2.1 ho2.2 ?_
    refine a_aload_n (pc := 61) dX0_insert_61 (by decide) rfl ?_
    refine a_dup (pc := 62) dX0_insert_62 n21 ?_
    refine a_getI (y := 2) (pc := 63) dX0_insert_63 fl_RX0_19 (by decide) s0_261 (Or.inl rfl) rfl ?_
    refine a_eq (y := M 261 2) rfl ?_
    refine a_iconst (pc := 66) dX0_insert_66 (by decide) ?_
    have ho3 := h.1
    replace h := h.2
    refine a_iadd (pc := 67) dX0_insert_67 ho3 ?_
    refine a_putI (y := 2) (pc := 68) dX0_insert_68 fl_RX0_19 (by decide) s0_261 rfl rfl (tyX0_ok 2 (by decide)) rfl ?_
    exact a_vret (pc := 71) dX0_insert_71 rfl rfl (Nat.le_of_ble_eq_true rfl) ⟨rfl, h⟩
  · replace h := h.2 hc1
    refine a_aload_n (pc := 22) dX0_insert_22 (by decide) rfl ?_
    refine a_getR (y := 262) (pc := 23) dX0_insert_23 fl_RX0_15 (by decide) s0_261 rfl rfl ?_
    refine a_iload_n (pc := 26) dX0_insert_26 rfl ?_
    refine a_iconst (pc := 27) dX0_insert_27 (by decide) ?_
    have ho4 := h.1
    replace h := h.2
    refine a_isub (pc := 28) dX0_insert_28 ho4 ?_
    have ho5 := h.1
    replace h := h.2
    refine a_iald (pc := 29) dX0_insert_29 (by decide) s0_262 ho5.1 ho5.2 ?_
    refine a_iload_n (pc := 30) dX0_insert_30 rfl ?_
    refine a_icmp_le (tgt := 54) (pc := 31) dX0_insert_31 (by decide) (fun hc6 => ?_) (fun hc6 => ?_)
    · replace h := h.1 hc6
      refine a_aload_n (pc := 54) dX0_insert_54 (by decide) rfl ?_
      refine a_getR (y := 262) (pc := 55) dX0_insert_55 fl_RX0_15 (by decide) s0_261 rfl rfl ?_
      refine a_iload_n (pc := 58) dX0_insert_58 rfl ?_
      refine a_iload_n (pc := 59) dX0_insert_59 rfl ?_
      have ho7 := h.1
      replace h := h.2
      refine a_iast (pc := 60) dX0_insert_60 (by decide) s0_262 ho7.1 ho7.2 ?_
      refine a_aload_n (pc := 61) dX0_insert_61 (by decide) rfl ?_
      refine a_dup (pc := 62) dX0_insert_62 n21 ?_
      refine a_getI (y := 2) (pc := 63) dX0_insert_63 fl_RX0_19 (by decide) s0_261 (Or.inl rfl) rfl ?_
      refine a_eq (y := M 261 2) rfl ?_
      refine a_iconst (pc := 66) dX0_insert_66 (by decide) ?_
      have ho8 := h.1
      replace h := h.2
      refine a_iadd (pc := 67) dX0_insert_67 ho8 ?_
      refine a_putI (y := 2) (pc := 68) dX0_insert_68 fl_RX0_19 (by decide) s0_261 rfl rfl (tyX0_ok 2 (by decide)) rfl ?_
      exact a_vret (pc := 71) dX0_insert_71 rfl rfl (Nat.le_of_ble_eq_true rfl) ⟨rfl, h⟩
    · replace h := h.2 hc6
      refine a_aload_n (pc := 34) dX0_insert_34 (by decide) rfl ?_
      refine a_getR (y := 262) (pc := 35) dX0_insert_35 fl_RX0_15 (by decide) s0_261 rfl rfl ?_
      refine a_iload_n (pc := 38) dX0_insert_38 rfl ?_
      refine a_aload_n (pc := 39) dX0_insert_39 (by decide) rfl ?_
      refine a_getR (y := 262) (pc := 40) dX0_insert_40 fl_RX0_15 (by decide) s0_261 rfl rfl ?_
      refine a_iload_n (pc := 43) dX0_insert_43 rfl ?_
      refine a_iconst (pc := 44) dX0_insert_44 (by decide) ?_
      refine a_isub (pc := 45) dX0_insert_45 ho4 ?_
      refine a_iald (pc := 46) dX0_insert_46 (by decide) s0_262 ho5.1 ho5.2 ?_
      have ho9 := h.1
      replace h := h.2
      refine a_iast (pc := 47) dX0_insert_47 (by decide) s0_262 ho9.1 ho9.2 ?_
      have ho10 := h.1
      replace h := h.2
      refine a_iinc (ls1 := [(2, 261), (0, l1), (0, l2 + (-1))]) (pc := 48) dX0_insert_48 rfl (by decide) (hp1 (t := 0) rfl (by decide)) ho10 rfl ?_
      refine a_goto (tgt := 18) (pc := 51) dX0_insert_51 (by decide) ?_
      exact h
theorem E_Board_insert {l1 : Int} {M : Mem} {Q : Int → Mem → Prop} (h : AW mX0_insert 0 [(2, 261), (0, l1), (9, 0)] M Q) : Calls mX0_insert [(2, 261), (0, l1)] S0 M Q := calls_of (by decide) (by decide) (Nat.le_of_ble_eq_true rfl) rfl h
set_option maxRecDepth 100000 in
set_option maxHeartbeats 4000000 in
theorem B_Kinds_goesAt_0 {l0 l1 : Int} {M : Mem} {Q : Int → Mem → Prop} (h : ((1300 ≤ l1 → ((l1 < 300 → ((l0 < 1 ∨ 5 < l0 → Q 1 M) ∧ (l0 = 1 → Q 0 M) ∧ (l0 = 2 → Q 1 M) ∧ (l0 = 3 → Q 1 M) ∧ (l0 = 4 → Q 0 M) ∧ (l0 = 5 → Q 1 M))) ∧ (¬ (l1 < 300) → ((l1 < 1200 → ((0 : Int) ≤ l1) ∧ ((¬ (l1 % 60) = 0 → ((l0 < 1 ∨ 5 < l0 → Q 1 M) ∧ (l0 = 1 → Q 0 M) ∧ (l0 = 2 → Q 0 M) ∧ (l0 = 3 → Q 0 M) ∧ (l0 = 4 → Q 0 M) ∧ (l0 = 5 → Q 0 M))) ∧ ((l1 % 60) = 0 → ((l0 < 1 ∨ 5 < l0 → Q 1 M) ∧ (l0 = 1 → Q 0 M) ∧ (l0 = 2 → Q 0 M) ∧ (l0 = 3 → Q 1 M) ∧ (l0 = 4 → Q 0 M) ∧ (l0 = 5 → Q 1 M))))) ∧ (¬ (l1 < 1200) → ((l0 < 1 ∨ 5 < l0 → Q 1 M) ∧ (l0 = 1 → Q 0 M) ∧ (l0 = 2 → Q 1 M) ∧ (l0 = 3 → Q 1 M) ∧ (l0 = 4 → Q 0 M) ∧ (l0 = 5 → Q 1 M))))))) ∧ (¬ (1300 ≤ l1) → ((l1 < 300 → ((l0 < 1 ∨ 5 < l0 → Q 1 M) ∧ (l0 = 1 → Q 1 M) ∧ (l0 = 2 → Q 1 M) ∧ (l0 = 3 → Q 1 M) ∧ (l0 = 4 → ((l1 < 400 → Q 0 M) ∧ (¬ (l1 < 400) → Q 1 M))) ∧ (l0 = 5 → Q 1 M))) ∧ (¬ (l1 < 300) → ((l1 < 1200 → ((0 : Int) ≤ l1) ∧ ((¬ (l1 % 60) = 0 → ((l0 < 1 ∨ 5 < l0 → Q 1 M) ∧ (l0 = 1 → Q 1 M) ∧ (l0 = 2 → Q 0 M) ∧ (l0 = 3 → Q 0 M) ∧ (l0 = 4 → ((l1 < 400 → Q 0 M) ∧ (¬ (l1 < 400) → Q 1 M))) ∧ (l0 = 5 → Q 0 M))) ∧ ((l1 % 60) = 0 → ((l0 < 1 ∨ 5 < l0 → Q 1 M) ∧ (l0 = 1 → Q 1 M) ∧ (l0 = 2 → Q 0 M) ∧ (l0 = 3 → Q 1 M) ∧ (l0 = 4 → ((l1 < 400 → Q 0 M) ∧ (¬ (l1 < 400) → Q 1 M))) ∧ (l0 = 5 → Q 1 M))))) ∧ (¬ (l1 < 1200) → ((l0 < 1 ∨ 5 < l0 → Q 1 M) ∧ (l0 = 1 → Q 1 M) ∧ (l0 = 2 → Q 1 M) ∧ (l0 = 3 → Q 1 M) ∧ (l0 = 4 → ((l1 < 400 → Q 0 M) ∧ (¬ (l1 < 400) → Q 1 M))) ∧ (l0 = 5 → Q 1 M))))))))) : AW mX1_goesAt 0 [(0, l0), (0, l1), (9, 0), (9, 0), (9, 0)] M Q := by
  refine a_iload_n (pc := 0) dX1_goesAt_0 rfl ?_
  refine a_sipush (pc := 1) dX1_goesAt_1 (by decide) (by decide +kernel) ?_
  refine a_icmp_ge (tgt := 11) (pc := 4) dX1_goesAt_4 (by decide) (fun hc1 => ?_) (fun hc1 => ?_)
  · replace h := h.1 hc1
    refine a_iconst (pc := 11) dX1_goesAt_11 (by decide) ?_
    refine a_istore_n (ls1 := [(0, l0), (0, l1), (0, 0), (9, 0), (9, 0)]) (pc := 12) dX1_goesAt_12 (by decide) (hp1 (t := 0) rfl (by decide)) rfl ?_
    refine a_iload_n (pc := 13) dX1_goesAt_13 rfl ?_
    refine a_sipush (pc := 14) dX1_goesAt_14 (by decide) (by decide +kernel) ?_
    refine a_icmp_lt (tgt := 27) (pc := 17) dX1_goesAt_17 (by decide) (fun hc2 => ?_) (fun hc2 => ?_)
    · replace h := h.1 hc2
      refine a_iconst (pc := 27) dX1_goesAt_27 (by decide) ?_
      refine a_goto (tgt := 32) (pc := 28) dX1_goesAt_28 (by decide) ?_
      refine a_istore_n (ls1 := [(0, l0), (0, l1), (0, 0), (0, 1), (9, 0)]) (pc := 32) dX1_goesAt_32 (by decide) (hp1 (t := 0) rfl (by decide)) rfl ?_
      refine a_iload_n (pc := 33) dX1_goesAt_33 rfl ?_
      refine a_if_ne (tgt := 44) (pc := 34) dX1_goesAt_34 (by decide) (fun _ => ?_) (fun hc => absurd hc (by decide))
      refine a_iconst (pc := 44) dX1_goesAt_44 (by decide) ?_
      refine a_goto (tgt := 49) (pc := 45) dX1_goesAt_45 (by decide) ?_
      refine a_istore (ls1 := [(0, l0), (0, l1), (0, 0), (0, 1), (0, 1)]) (pc := 49) dX1_goesAt_49 (by decide) (hp1 (t := 0) rfl (by decide)) rfl ?_
      refine a_iload_n (pc := 51) dX1_goesAt_51 rfl ?_
      rcases (show l0 < 1 ∨ 5 < l0 ∨ l0 = 1 ∨ l0 = 2 ∨ l0 = 3 ∨ l0 = 4 ∨ l0 = 5 by omega) with hc | hc | hc | hc | hc | hc | hc
      · replace h := h.1 (by omega)
        refine a_tabOut (tgt := 115) (pc := 52) dX1_goesAt_52 (by omega) (by decide) ?_
        refine a_iconst (pc := 115) dX1_goesAt_115 (by decide) ?_
        exact a_iretz (pc := 116) dX1_goesAt_116 rfl rfl (Nat.le_of_ble_eq_true rfl) (by decide) ⟨rfl, h⟩
      · replace h := h.1 (by omega)
        refine a_tabOut (tgt := 115) (pc := 52) dX1_goesAt_52 (by omega) (by decide) ?_
        refine a_iconst (pc := 115) dX1_goesAt_115 (by decide) ?_
        exact a_iretz (pc := 116) dX1_goesAt_116 rfl rfl (Nat.le_of_ble_eq_true rfl) (by decide) ⟨rfl, h⟩
      · replace h := h.2.1 hc
        refine a_tabIn (v := 1) (off := 36) (tgt := 88) (pc := 52) dX1_goesAt_52 hc (by decide) (by decide) rfl (by decide) ?_
        refine a_iload_n (pc := 88) dX1_goesAt_88 rfl ?_
        exact a_iretz (pc := 89) dX1_goesAt_89 rfl rfl (Nat.le_of_ble_eq_true rfl) (by decide) ⟨rfl, h⟩
      · replace h := h.2.2.1 hc
        refine a_tabIn (v := 2) (off := 38) (tgt := 90) (pc := 52) dX1_goesAt_52 hc (by decide) (by decide) rfl (by decide) ?_
        refine a_iload_n (pc := 90) dX1_goesAt_90 rfl ?_
        exact a_iretz (pc := 91) dX1_goesAt_91 rfl rfl (Nat.le_of_ble_eq_true rfl) (by decide) ⟨rfl, h⟩
      · replace h := h.2.2.2.1 hc
        refine a_tabIn (v := 3) (off := 40) (tgt := 92) (pc := 52) dX1_goesAt_52 hc (by decide) (by decide) rfl (by decide) ?_
        refine a_iload (pc := 92) dX1_goesAt_92 rfl ?_
        exact a_iretz (pc := 94) dX1_goesAt_94 rfl rfl (Nat.le_of_ble_eq_true rfl) (by decide) ⟨rfl, h⟩
      · replace h := h.2.2.2.2.1 hc
        refine a_tabIn (v := 4) (off := 43) (tgt := 95) (pc := 52) dX1_goesAt_52 hc (by decide) (by decide) rfl (by decide) ?_
        refine a_iload_n (pc := 95) dX1_goesAt_95 rfl ?_
        refine a_if_eq (tgt := 110) (pc := 96) dX1_goesAt_96 (by decide) (fun _ => ?_) (fun hc => absurd (by decide) hc)
        refine a_iconst (pc := 110) dX1_goesAt_110 (by decide) ?_
        exact a_iretz (pc := 111) dX1_goesAt_111 rfl rfl (Nat.le_of_ble_eq_true rfl) (by decide) ⟨rfl, h⟩
      · replace h := h.2.2.2.2.2 hc
        refine a_tabIn (v := 5) (off := 60) (tgt := 112) (pc := 52) dX1_goesAt_52 hc (by decide) (by decide) rfl (by decide) ?_
        refine a_iload (pc := 112) dX1_goesAt_112 rfl ?_
        exact a_iretz (pc := 114) dX1_goesAt_114 rfl rfl (Nat.le_of_ble_eq_true rfl) (by decide) ⟨rfl, h⟩
    · replace h := h.2 hc2
      refine a_iload_n (pc := 20) dX1_goesAt_20 rfl ?_
      refine a_sipush (pc := 21) dX1_goesAt_21 (by decide) (by decide +kernel) ?_
      refine a_icmp_lt (tgt := 31) (pc := 24) dX1_goesAt_24 (by decide) (fun hc3 => ?_) (fun hc3 => ?_)
      · replace h := h.1 hc3
        refine a_iconst (pc := 31) dX1_goesAt_31 (by decide) ?_
        refine a_istore_n (ls1 := [(0, l0), (0, l1), (0, 0), (0, 0), (9, 0)]) (pc := 32) dX1_goesAt_32 (by decide) (hp1 (t := 0) rfl (by decide)) rfl ?_
        refine a_iload_n (pc := 33) dX1_goesAt_33 rfl ?_
        refine a_if_ne (tgt := 44) (pc := 34) dX1_goesAt_34 (by decide) (fun hc => absurd rfl hc) (fun _ => ?_)
        refine a_iload_n (pc := 37) dX1_goesAt_37 rfl ?_
        refine a_bipush (pc := 38) dX1_goesAt_38 (by decide) (by decide +kernel) ?_
        have ho4 := h.1
        replace h := h.2
        refine a_irem (pc := 40) dX1_goesAt_40 ho4 (by decide) ?_
        refine a_if_ne (tgt := 48) (pc := 41) dX1_goesAt_41 (by decide) (fun hc5 => ?_) (fun hc5 => ?_)
        · replace h := h.1 hc5
          refine a_iconst (pc := 48) dX1_goesAt_48 (by decide) ?_
          refine a_istore (ls1 := [(0, l0), (0, l1), (0, 0), (0, 0), (0, 0)]) (pc := 49) dX1_goesAt_49 (by decide) (hp1 (t := 0) rfl (by decide)) rfl ?_
          refine a_iload_n (pc := 51) dX1_goesAt_51 rfl ?_
          rcases (show l0 < 1 ∨ 5 < l0 ∨ l0 = 1 ∨ l0 = 2 ∨ l0 = 3 ∨ l0 = 4 ∨ l0 = 5 by omega) with hc | hc | hc | hc | hc | hc | hc
          · replace h := h.1 (by omega)
            refine a_tabOut (tgt := 115) (pc := 52) dX1_goesAt_52 (by omega) (by decide) ?_
            refine a_iconst (pc := 115) dX1_goesAt_115 (by decide) ?_
            exact a_iretz (pc := 116) dX1_goesAt_116 rfl rfl (Nat.le_of_ble_eq_true rfl) (by decide) ⟨rfl, h⟩
          · replace h := h.1 (by omega)
            refine a_tabOut (tgt := 115) (pc := 52) dX1_goesAt_52 (by omega) (by decide) ?_
            refine a_iconst (pc := 115) dX1_goesAt_115 (by decide) ?_
            exact a_iretz (pc := 116) dX1_goesAt_116 rfl rfl (Nat.le_of_ble_eq_true rfl) (by decide) ⟨rfl, h⟩
          · replace h := h.2.1 hc
            refine a_tabIn (v := 1) (off := 36) (tgt := 88) (pc := 52) dX1_goesAt_52 hc (by decide) (by decide) rfl (by decide) ?_
            refine a_iload_n (pc := 88) dX1_goesAt_88 rfl ?_
            exact a_iretz (pc := 89) dX1_goesAt_89 rfl rfl (Nat.le_of_ble_eq_true rfl) (by decide) ⟨rfl, h⟩
          · replace h := h.2.2.1 hc
            refine a_tabIn (v := 2) (off := 38) (tgt := 90) (pc := 52) dX1_goesAt_52 hc (by decide) (by decide) rfl (by decide) ?_
            refine a_iload_n (pc := 90) dX1_goesAt_90 rfl ?_
            exact a_iretz (pc := 91) dX1_goesAt_91 rfl rfl (Nat.le_of_ble_eq_true rfl) (by decide) ⟨rfl, h⟩
          · replace h := h.2.2.2.1 hc
            refine a_tabIn (v := 3) (off := 40) (tgt := 92) (pc := 52) dX1_goesAt_52 hc (by decide) (by decide) rfl (by decide) ?_
            refine a_iload (pc := 92) dX1_goesAt_92 rfl ?_
            exact a_iretz (pc := 94) dX1_goesAt_94 rfl rfl (Nat.le_of_ble_eq_true rfl) (by decide) ⟨rfl, h⟩
          · replace h := h.2.2.2.2.1 hc
            refine a_tabIn (v := 4) (off := 43) (tgt := 95) (pc := 52) dX1_goesAt_52 hc (by decide) (by decide) rfl (by decide) ?_
            refine a_iload_n (pc := 95) dX1_goesAt_95 rfl ?_
            refine a_if_eq (tgt := 110) (pc := 96) dX1_goesAt_96 (by decide) (fun _ => ?_) (fun hc => absurd (by decide) hc)
            refine a_iconst (pc := 110) dX1_goesAt_110 (by decide) ?_
            exact a_iretz (pc := 111) dX1_goesAt_111 rfl rfl (Nat.le_of_ble_eq_true rfl) (by decide) ⟨rfl, h⟩
          · replace h := h.2.2.2.2.2 hc
            refine a_tabIn (v := 5) (off := 60) (tgt := 112) (pc := 52) dX1_goesAt_52 hc (by decide) (by decide) rfl (by decide) ?_
            refine a_iload (pc := 112) dX1_goesAt_112 rfl ?_
            exact a_iretz (pc := 114) dX1_goesAt_114 rfl rfl (Nat.le_of_ble_eq_true rfl) (by decide) ⟨rfl, h⟩
        · replace h := h.2 hc5
          refine a_iconst (pc := 44) dX1_goesAt_44 (by decide) ?_
          refine a_goto (tgt := 49) (pc := 45) dX1_goesAt_45 (by decide) ?_
          refine a_istore (ls1 := [(0, l0), (0, l1), (0, 0), (0, 0), (0, 1)]) (pc := 49) dX1_goesAt_49 (by decide) (hp1 (t := 0) rfl (by decide)) rfl ?_
          refine a_iload_n (pc := 51) dX1_goesAt_51 rfl ?_
          rcases (show l0 < 1 ∨ 5 < l0 ∨ l0 = 1 ∨ l0 = 2 ∨ l0 = 3 ∨ l0 = 4 ∨ l0 = 5 by omega) with hc | hc | hc | hc | hc | hc | hc
          · replace h := h.1 (by omega)
            refine a_tabOut (tgt := 115) (pc := 52) dX1_goesAt_52 (by omega) (by decide) ?_
            refine a_iconst (pc := 115) dX1_goesAt_115 (by decide) ?_
            exact a_iretz (pc := 116) dX1_goesAt_116 rfl rfl (Nat.le_of_ble_eq_true rfl) (by decide) ⟨rfl, h⟩
          · replace h := h.1 (by omega)
            refine a_tabOut (tgt := 115) (pc := 52) dX1_goesAt_52 (by omega) (by decide) ?_
            refine a_iconst (pc := 115) dX1_goesAt_115 (by decide) ?_
            exact a_iretz (pc := 116) dX1_goesAt_116 rfl rfl (Nat.le_of_ble_eq_true rfl) (by decide) ⟨rfl, h⟩
          · replace h := h.2.1 hc
            refine a_tabIn (v := 1) (off := 36) (tgt := 88) (pc := 52) dX1_goesAt_52 hc (by decide) (by decide) rfl (by decide) ?_
            refine a_iload_n (pc := 88) dX1_goesAt_88 rfl ?_
            exact a_iretz (pc := 89) dX1_goesAt_89 rfl rfl (Nat.le_of_ble_eq_true rfl) (by decide) ⟨rfl, h⟩
          · replace h := h.2.2.1 hc
            refine a_tabIn (v := 2) (off := 38) (tgt := 90) (pc := 52) dX1_goesAt_52 hc (by decide) (by decide) rfl (by decide) ?_
            refine a_iload_n (pc := 90) dX1_goesAt_90 rfl ?_
            exact a_iretz (pc := 91) dX1_goesAt_91 rfl rfl (Nat.le_of_ble_eq_true rfl) (by decide) ⟨rfl, h⟩
          · replace h := h.2.2.2.1 hc
            refine a_tabIn (v := 3) (off := 40) (tgt := 92) (pc := 52) dX1_goesAt_52 hc (by decide) (by decide) rfl (by decide) ?_
            refine a_iload (pc := 92) dX1_goesAt_92 rfl ?_
            exact a_iretz (pc := 94) dX1_goesAt_94 rfl rfl (Nat.le_of_ble_eq_true rfl) (by decide) ⟨rfl, h⟩
          · replace h := h.2.2.2.2.1 hc
            refine a_tabIn (v := 4) (off := 43) (tgt := 95) (pc := 52) dX1_goesAt_52 hc (by decide) (by decide) rfl (by decide) ?_
            refine a_iload_n (pc := 95) dX1_goesAt_95 rfl ?_
            refine a_if_eq (tgt := 110) (pc := 96) dX1_goesAt_96 (by decide) (fun _ => ?_) (fun hc => absurd (by decide) hc)
            refine a_iconst (pc := 110) dX1_goesAt_110 (by decide) ?_
            exact a_iretz (pc := 111) dX1_goesAt_111 rfl rfl (Nat.le_of_ble_eq_true rfl) (by decide) ⟨rfl, h⟩
          · replace h := h.2.2.2.2.2 hc
            refine a_tabIn (v := 5) (off := 60) (tgt := 112) (pc := 52) dX1_goesAt_52 hc (by decide) (by decide) rfl (by decide) ?_
            refine a_iload (pc := 112) dX1_goesAt_112 rfl ?_
            exact a_iretz (pc := 114) dX1_goesAt_114 rfl rfl (Nat.le_of_ble_eq_true rfl) (by decide) ⟨rfl, h⟩
      · replace h := h.2 hc3
        refine a_iconst (pc := 27) dX1_goesAt_27 (by decide) ?_
        refine a_goto (tgt := 32) (pc := 28) dX1_goesAt_28 (by decide) ?_
        refine a_istore_n (ls1 := [(0, l0), (0, l1), (0, 0), (0, 1), (9, 0)]) (pc := 32) dX1_goesAt_32 (by decide) (hp1 (t := 0) rfl (by decide)) rfl ?_
        refine a_iload_n (pc := 33) dX1_goesAt_33 rfl ?_
        refine a_if_ne (tgt := 44) (pc := 34) dX1_goesAt_34 (by decide) (fun _ => ?_) (fun hc => absurd hc (by decide))
        refine a_iconst (pc := 44) dX1_goesAt_44 (by decide) ?_
        refine a_goto (tgt := 49) (pc := 45) dX1_goesAt_45 (by decide) ?_
        refine a_istore (ls1 := [(0, l0), (0, l1), (0, 0), (0, 1), (0, 1)]) (pc := 49) dX1_goesAt_49 (by decide) (hp1 (t := 0) rfl (by decide)) rfl ?_
        refine a_iload_n (pc := 51) dX1_goesAt_51 rfl ?_
        rcases (show l0 < 1 ∨ 5 < l0 ∨ l0 = 1 ∨ l0 = 2 ∨ l0 = 3 ∨ l0 = 4 ∨ l0 = 5 by omega) with hc | hc | hc | hc | hc | hc | hc
        · replace h := h.1 (by omega)
          refine a_tabOut (tgt := 115) (pc := 52) dX1_goesAt_52 (by omega) (by decide) ?_
          refine a_iconst (pc := 115) dX1_goesAt_115 (by decide) ?_
          exact a_iretz (pc := 116) dX1_goesAt_116 rfl rfl (Nat.le_of_ble_eq_true rfl) (by decide) ⟨rfl, h⟩
        · replace h := h.1 (by omega)
          refine a_tabOut (tgt := 115) (pc := 52) dX1_goesAt_52 (by omega) (by decide) ?_
          refine a_iconst (pc := 115) dX1_goesAt_115 (by decide) ?_
          exact a_iretz (pc := 116) dX1_goesAt_116 rfl rfl (Nat.le_of_ble_eq_true rfl) (by decide) ⟨rfl, h⟩
        · replace h := h.2.1 hc
          refine a_tabIn (v := 1) (off := 36) (tgt := 88) (pc := 52) dX1_goesAt_52 hc (by decide) (by decide) rfl (by decide) ?_
          refine a_iload_n (pc := 88) dX1_goesAt_88 rfl ?_
          exact a_iretz (pc := 89) dX1_goesAt_89 rfl rfl (Nat.le_of_ble_eq_true rfl) (by decide) ⟨rfl, h⟩
        · replace h := h.2.2.1 hc
          refine a_tabIn (v := 2) (off := 38) (tgt := 90) (pc := 52) dX1_goesAt_52 hc (by decide) (by decide) rfl (by decide) ?_
          refine a_iload_n (pc := 90) dX1_goesAt_90 rfl ?_
          exact a_iretz (pc := 91) dX1_goesAt_91 rfl rfl (Nat.le_of_ble_eq_true rfl) (by decide) ⟨rfl, h⟩
        · replace h := h.2.2.2.1 hc
          refine a_tabIn (v := 3) (off := 40) (tgt := 92) (pc := 52) dX1_goesAt_52 hc (by decide) (by decide) rfl (by decide) ?_
          refine a_iload (pc := 92) dX1_goesAt_92 rfl ?_
          exact a_iretz (pc := 94) dX1_goesAt_94 rfl rfl (Nat.le_of_ble_eq_true rfl) (by decide) ⟨rfl, h⟩
        · replace h := h.2.2.2.2.1 hc
          refine a_tabIn (v := 4) (off := 43) (tgt := 95) (pc := 52) dX1_goesAt_52 hc (by decide) (by decide) rfl (by decide) ?_
          refine a_iload_n (pc := 95) dX1_goesAt_95 rfl ?_
          refine a_if_eq (tgt := 110) (pc := 96) dX1_goesAt_96 (by decide) (fun _ => ?_) (fun hc => absurd (by decide) hc)
          refine a_iconst (pc := 110) dX1_goesAt_110 (by decide) ?_
          exact a_iretz (pc := 111) dX1_goesAt_111 rfl rfl (Nat.le_of_ble_eq_true rfl) (by decide) ⟨rfl, h⟩
        · replace h := h.2.2.2.2.2 hc
          refine a_tabIn (v := 5) (off := 60) (tgt := 112) (pc := 52) dX1_goesAt_52 hc (by decide) (by decide) rfl (by decide) ?_
          refine a_iload (pc := 112) dX1_goesAt_112 rfl ?_
          exact a_iretz (pc := 114) dX1_goesAt_114 rfl rfl (Nat.le_of_ble_eq_true rfl) (by decide) ⟨rfl, h⟩
  · replace h := h.2 hc1
    refine a_iconst (pc := 7) dX1_goesAt_7 (by decide) ?_
    refine a_goto (tgt := 12) (pc := 8) dX1_goesAt_8 (by decide) ?_
    refine a_istore_n (ls1 := [(0, l0), (0, l1), (0, 1), (9, 0), (9, 0)]) (pc := 12) dX1_goesAt_12 (by decide) (hp1 (t := 0) rfl (by decide)) rfl ?_
    refine a_iload_n (pc := 13) dX1_goesAt_13 rfl ?_
    refine a_sipush (pc := 14) dX1_goesAt_14 (by decide) (by decide +kernel) ?_
    refine a_icmp_lt (tgt := 27) (pc := 17) dX1_goesAt_17 (by decide) (fun hc6 => ?_) (fun hc6 => ?_)
    · replace h := h.1 hc6
      refine a_iconst (pc := 27) dX1_goesAt_27 (by decide) ?_
      refine a_goto (tgt := 32) (pc := 28) dX1_goesAt_28 (by decide) ?_
      refine a_istore_n (ls1 := [(0, l0), (0, l1), (0, 1), (0, 1), (9, 0)]) (pc := 32) dX1_goesAt_32 (by decide) (hp1 (t := 0) rfl (by decide)) rfl ?_
      refine a_iload_n (pc := 33) dX1_goesAt_33 rfl ?_
      refine a_if_ne (tgt := 44) (pc := 34) dX1_goesAt_34 (by decide) (fun _ => ?_) (fun hc => absurd hc (by decide))
      refine a_iconst (pc := 44) dX1_goesAt_44 (by decide) ?_
      refine a_goto (tgt := 49) (pc := 45) dX1_goesAt_45 (by decide) ?_
      refine a_istore (ls1 := [(0, l0), (0, l1), (0, 1), (0, 1), (0, 1)]) (pc := 49) dX1_goesAt_49 (by decide) (hp1 (t := 0) rfl (by decide)) rfl ?_
      refine a_iload_n (pc := 51) dX1_goesAt_51 rfl ?_
      rcases (show l0 < 1 ∨ 5 < l0 ∨ l0 = 1 ∨ l0 = 2 ∨ l0 = 3 ∨ l0 = 4 ∨ l0 = 5 by omega) with hc | hc | hc | hc | hc | hc | hc
      · replace h := h.1 (by omega)
        refine a_tabOut (tgt := 115) (pc := 52) dX1_goesAt_52 (by omega) (by decide) ?_
        refine a_iconst (pc := 115) dX1_goesAt_115 (by decide) ?_
        exact a_iretz (pc := 116) dX1_goesAt_116 rfl rfl (Nat.le_of_ble_eq_true rfl) (by decide) ⟨rfl, h⟩
      · replace h := h.1 (by omega)
        refine a_tabOut (tgt := 115) (pc := 52) dX1_goesAt_52 (by omega) (by decide) ?_
        refine a_iconst (pc := 115) dX1_goesAt_115 (by decide) ?_
        exact a_iretz (pc := 116) dX1_goesAt_116 rfl rfl (Nat.le_of_ble_eq_true rfl) (by decide) ⟨rfl, h⟩
      · replace h := h.2.1 hc
        refine a_tabIn (v := 1) (off := 36) (tgt := 88) (pc := 52) dX1_goesAt_52 hc (by decide) (by decide) rfl (by decide) ?_
        refine a_iload_n (pc := 88) dX1_goesAt_88 rfl ?_
        exact a_iretz (pc := 89) dX1_goesAt_89 rfl rfl (Nat.le_of_ble_eq_true rfl) (by decide) ⟨rfl, h⟩
      · replace h := h.2.2.1 hc
        refine a_tabIn (v := 2) (off := 38) (tgt := 90) (pc := 52) dX1_goesAt_52 hc (by decide) (by decide) rfl (by decide) ?_
        refine a_iload_n (pc := 90) dX1_goesAt_90 rfl ?_
        exact a_iretz (pc := 91) dX1_goesAt_91 rfl rfl (Nat.le_of_ble_eq_true rfl) (by decide) ⟨rfl, h⟩
      · replace h := h.2.2.2.1 hc
        refine a_tabIn (v := 3) (off := 40) (tgt := 92) (pc := 52) dX1_goesAt_52 hc (by decide) (by decide) rfl (by decide) ?_
        refine a_iload (pc := 92) dX1_goesAt_92 rfl ?_
        exact a_iretz (pc := 94) dX1_goesAt_94 rfl rfl (Nat.le_of_ble_eq_true rfl) (by decide) ⟨rfl, h⟩
      · replace h := h.2.2.2.2.1 hc
        refine a_tabIn (v := 4) (off := 43) (tgt := 95) (pc := 52) dX1_goesAt_52 hc (by decide) (by decide) rfl (by decide) ?_
        refine a_iload_n (pc := 95) dX1_goesAt_95 rfl ?_
        refine a_if_eq (tgt := 110) (pc := 96) dX1_goesAt_96 (by decide) (fun hc => absurd hc (by decide)) (fun _ => ?_)
        refine a_iload_n (pc := 99) dX1_goesAt_99 rfl ?_
        refine a_sipush (pc := 100) dX1_goesAt_100 (by decide) (by decide +kernel) ?_
        refine a_icmp_lt (tgt := 110) (pc := 103) dX1_goesAt_103 (by decide) (fun hc7 => ?_) (fun hc7 => ?_)
        · replace h := h.1 hc7
          refine a_iconst (pc := 110) dX1_goesAt_110 (by decide) ?_
          exact a_iretz (pc := 111) dX1_goesAt_111 rfl rfl (Nat.le_of_ble_eq_true rfl) (by decide) ⟨rfl, h⟩
        · replace h := h.2 hc7
          refine a_iconst (pc := 106) dX1_goesAt_106 (by decide) ?_
          refine a_goto (tgt := 111) (pc := 107) dX1_goesAt_107 (by decide) ?_
          exact a_iretz (pc := 111) dX1_goesAt_111 rfl rfl (Nat.le_of_ble_eq_true rfl) (by decide) ⟨rfl, h⟩
      · replace h := h.2.2.2.2.2 hc
        refine a_tabIn (v := 5) (off := 60) (tgt := 112) (pc := 52) dX1_goesAt_52 hc (by decide) (by decide) rfl (by decide) ?_
        refine a_iload (pc := 112) dX1_goesAt_112 rfl ?_
        exact a_iretz (pc := 114) dX1_goesAt_114 rfl rfl (Nat.le_of_ble_eq_true rfl) (by decide) ⟨rfl, h⟩
    · replace h := h.2 hc6
      refine a_iload_n (pc := 20) dX1_goesAt_20 rfl ?_
      refine a_sipush (pc := 21) dX1_goesAt_21 (by decide) (by decide +kernel) ?_
      refine a_icmp_lt (tgt := 31) (pc := 24) dX1_goesAt_24 (by decide) (fun hc8 => ?_) (fun hc8 => ?_)
      · replace h := h.1 hc8
        refine a_iconst (pc := 31) dX1_goesAt_31 (by decide) ?_
        refine a_istore_n (ls1 := [(0, l0), (0, l1), (0, 1), (0, 0), (9, 0)]) (pc := 32) dX1_goesAt_32 (by decide) (hp1 (t := 0) rfl (by decide)) rfl ?_
        refine a_iload_n (pc := 33) dX1_goesAt_33 rfl ?_
        refine a_if_ne (tgt := 44) (pc := 34) dX1_goesAt_34 (by decide) (fun hc => absurd rfl hc) (fun _ => ?_)
        refine a_iload_n (pc := 37) dX1_goesAt_37 rfl ?_
        refine a_bipush (pc := 38) dX1_goesAt_38 (by decide) (by decide +kernel) ?_
        have ho9 := h.1
        replace h := h.2
        refine a_irem (pc := 40) dX1_goesAt_40 ho9 (by decide) ?_
        refine a_if_ne (tgt := 48) (pc := 41) dX1_goesAt_41 (by decide) (fun hc10 => ?_) (fun hc10 => ?_)
        · replace h := h.1 hc10
          refine a_iconst (pc := 48) dX1_goesAt_48 (by decide) ?_
          refine a_istore (ls1 := [(0, l0), (0, l1), (0, 1), (0, 0), (0, 0)]) (pc := 49) dX1_goesAt_49 (by decide) (hp1 (t := 0) rfl (by decide)) rfl ?_
          refine a_iload_n (pc := 51) dX1_goesAt_51 rfl ?_
          rcases (show l0 < 1 ∨ 5 < l0 ∨ l0 = 1 ∨ l0 = 2 ∨ l0 = 3 ∨ l0 = 4 ∨ l0 = 5 by omega) with hc | hc | hc | hc | hc | hc | hc
          · replace h := h.1 (by omega)
            refine a_tabOut (tgt := 115) (pc := 52) dX1_goesAt_52 (by omega) (by decide) ?_
            refine a_iconst (pc := 115) dX1_goesAt_115 (by decide) ?_
            exact a_iretz (pc := 116) dX1_goesAt_116 rfl rfl (Nat.le_of_ble_eq_true rfl) (by decide) ⟨rfl, h⟩
          · replace h := h.1 (by omega)
            refine a_tabOut (tgt := 115) (pc := 52) dX1_goesAt_52 (by omega) (by decide) ?_
            refine a_iconst (pc := 115) dX1_goesAt_115 (by decide) ?_
            exact a_iretz (pc := 116) dX1_goesAt_116 rfl rfl (Nat.le_of_ble_eq_true rfl) (by decide) ⟨rfl, h⟩
          · replace h := h.2.1 hc
            refine a_tabIn (v := 1) (off := 36) (tgt := 88) (pc := 52) dX1_goesAt_52 hc (by decide) (by decide) rfl (by decide) ?_
            refine a_iload_n (pc := 88) dX1_goesAt_88 rfl ?_
            exact a_iretz (pc := 89) dX1_goesAt_89 rfl rfl (Nat.le_of_ble_eq_true rfl) (by decide) ⟨rfl, h⟩
          · replace h := h.2.2.1 hc
            refine a_tabIn (v := 2) (off := 38) (tgt := 90) (pc := 52) dX1_goesAt_52 hc (by decide) (by decide) rfl (by decide) ?_
            refine a_iload_n (pc := 90) dX1_goesAt_90 rfl ?_
            exact a_iretz (pc := 91) dX1_goesAt_91 rfl rfl (Nat.le_of_ble_eq_true rfl) (by decide) ⟨rfl, h⟩
          · replace h := h.2.2.2.1 hc
            refine a_tabIn (v := 3) (off := 40) (tgt := 92) (pc := 52) dX1_goesAt_52 hc (by decide) (by decide) rfl (by decide) ?_
            refine a_iload (pc := 92) dX1_goesAt_92 rfl ?_
            exact a_iretz (pc := 94) dX1_goesAt_94 rfl rfl (Nat.le_of_ble_eq_true rfl) (by decide) ⟨rfl, h⟩
          · replace h := h.2.2.2.2.1 hc
            refine a_tabIn (v := 4) (off := 43) (tgt := 95) (pc := 52) dX1_goesAt_52 hc (by decide) (by decide) rfl (by decide) ?_
            refine a_iload_n (pc := 95) dX1_goesAt_95 rfl ?_
            refine a_if_eq (tgt := 110) (pc := 96) dX1_goesAt_96 (by decide) (fun hc => absurd hc (by decide)) (fun _ => ?_)
            refine a_iload_n (pc := 99) dX1_goesAt_99 rfl ?_
            refine a_sipush (pc := 100) dX1_goesAt_100 (by decide) (by decide +kernel) ?_
            refine a_icmp_lt (tgt := 110) (pc := 103) dX1_goesAt_103 (by decide) (fun hc11 => ?_) (fun hc11 => ?_)
            · replace h := h.1 hc11
              refine a_iconst (pc := 110) dX1_goesAt_110 (by decide) ?_
              exact a_iretz (pc := 111) dX1_goesAt_111 rfl rfl (Nat.le_of_ble_eq_true rfl) (by decide) ⟨rfl, h⟩
            · replace h := h.2 hc11
              refine a_iconst (pc := 106) dX1_goesAt_106 (by decide) ?_
              refine a_goto (tgt := 111) (pc := 107) dX1_goesAt_107 (by decide) ?_
              exact a_iretz (pc := 111) dX1_goesAt_111 rfl rfl (Nat.le_of_ble_eq_true rfl) (by decide) ⟨rfl, h⟩
          · replace h := h.2.2.2.2.2 hc
            refine a_tabIn (v := 5) (off := 60) (tgt := 112) (pc := 52) dX1_goesAt_52 hc (by decide) (by decide) rfl (by decide) ?_
            refine a_iload (pc := 112) dX1_goesAt_112 rfl ?_
            exact a_iretz (pc := 114) dX1_goesAt_114 rfl rfl (Nat.le_of_ble_eq_true rfl) (by decide) ⟨rfl, h⟩
        · replace h := h.2 hc10
          refine a_iconst (pc := 44) dX1_goesAt_44 (by decide) ?_
          refine a_goto (tgt := 49) (pc := 45) dX1_goesAt_45 (by decide) ?_
          refine a_istore (ls1 := [(0, l0), (0, l1), (0, 1), (0, 0), (0, 1)]) (pc := 49) dX1_goesAt_49 (by decide) (hp1 (t := 0) rfl (by decide)) rfl ?_
          refine a_iload_n (pc := 51) dX1_goesAt_51 rfl ?_
          rcases (show l0 < 1 ∨ 5 < l0 ∨ l0 = 1 ∨ l0 = 2 ∨ l0 = 3 ∨ l0 = 4 ∨ l0 = 5 by omega) with hc | hc | hc | hc | hc | hc | hc
          · replace h := h.1 (by omega)
            refine a_tabOut (tgt := 115) (pc := 52) dX1_goesAt_52 (by omega) (by decide) ?_
            refine a_iconst (pc := 115) dX1_goesAt_115 (by decide) ?_
            exact a_iretz (pc := 116) dX1_goesAt_116 rfl rfl (Nat.le_of_ble_eq_true rfl) (by decide) ⟨rfl, h⟩
          · replace h := h.1 (by omega)
            refine a_tabOut (tgt := 115) (pc := 52) dX1_goesAt_52 (by omega) (by decide) ?_
            refine a_iconst (pc := 115) dX1_goesAt_115 (by decide) ?_
            exact a_iretz (pc := 116) dX1_goesAt_116 rfl rfl (Nat.le_of_ble_eq_true rfl) (by decide) ⟨rfl, h⟩
          · replace h := h.2.1 hc
            refine a_tabIn (v := 1) (off := 36) (tgt := 88) (pc := 52) dX1_goesAt_52 hc (by decide) (by decide) rfl (by decide) ?_
            refine a_iload_n (pc := 88) dX1_goesAt_88 rfl ?_
            exact a_iretz (pc := 89) dX1_goesAt_89 rfl rfl (Nat.le_of_ble_eq_true rfl) (by decide) ⟨rfl, h⟩
          · replace h := h.2.2.1 hc
            refine a_tabIn (v := 2) (off := 38) (tgt := 90) (pc := 52) dX1_goesAt_52 hc (by decide) (by decide) rfl (by decide) ?_
            refine a_iload_n (pc := 90) dX1_goesAt_90 rfl ?_
            exact a_iretz (pc := 91) dX1_goesAt_91 rfl rfl (Nat.le_of_ble_eq_true rfl) (by decide) ⟨rfl, h⟩
          · replace h := h.2.2.2.1 hc
            refine a_tabIn (v := 3) (off := 40) (tgt := 92) (pc := 52) dX1_goesAt_52 hc (by decide) (by decide) rfl (by decide) ?_
            refine a_iload (pc := 92) dX1_goesAt_92 rfl ?_
            exact a_iretz (pc := 94) dX1_goesAt_94 rfl rfl (Nat.le_of_ble_eq_true rfl) (by decide) ⟨rfl, h⟩
          · replace h := h.2.2.2.2.1 hc
            refine a_tabIn (v := 4) (off := 43) (tgt := 95) (pc := 52) dX1_goesAt_52 hc (by decide) (by decide) rfl (by decide) ?_
            refine a_iload_n (pc := 95) dX1_goesAt_95 rfl ?_
            refine a_if_eq (tgt := 110) (pc := 96) dX1_goesAt_96 (by decide) (fun hc => absurd hc (by decide)) (fun _ => ?_)
            refine a_iload_n (pc := 99) dX1_goesAt_99 rfl ?_
            refine a_sipush (pc := 100) dX1_goesAt_100 (by decide) (by decide +kernel) ?_
            refine a_icmp_lt (tgt := 110) (pc := 103) dX1_goesAt_103 (by decide) (fun hc12 => ?_) (fun hc12 => ?_)
            · replace h := h.1 hc12
              refine a_iconst (pc := 110) dX1_goesAt_110 (by decide) ?_
              exact a_iretz (pc := 111) dX1_goesAt_111 rfl rfl (Nat.le_of_ble_eq_true rfl) (by decide) ⟨rfl, h⟩
            · replace h := h.2 hc12
              refine a_iconst (pc := 106) dX1_goesAt_106 (by decide) ?_
              refine a_goto (tgt := 111) (pc := 107) dX1_goesAt_107 (by decide) ?_
              exact a_iretz (pc := 111) dX1_goesAt_111 rfl rfl (Nat.le_of_ble_eq_true rfl) (by decide) ⟨rfl, h⟩
          · replace h := h.2.2.2.2.2 hc
            refine a_tabIn (v := 5) (off := 60) (tgt := 112) (pc := 52) dX1_goesAt_52 hc (by decide) (by decide) rfl (by decide) ?_
            refine a_iload (pc := 112) dX1_goesAt_112 rfl ?_
            exact a_iretz (pc := 114) dX1_goesAt_114 rfl rfl (Nat.le_of_ble_eq_true rfl) (by decide) ⟨rfl, h⟩
      · replace h := h.2 hc8
        refine a_iconst (pc := 27) dX1_goesAt_27 (by decide) ?_
        refine a_goto (tgt := 32) (pc := 28) dX1_goesAt_28 (by decide) ?_
        refine a_istore_n (ls1 := [(0, l0), (0, l1), (0, 1), (0, 1), (9, 0)]) (pc := 32) dX1_goesAt_32 (by decide) (hp1 (t := 0) rfl (by decide)) rfl ?_
        refine a_iload_n (pc := 33) dX1_goesAt_33 rfl ?_
        refine a_if_ne (tgt := 44) (pc := 34) dX1_goesAt_34 (by decide) (fun _ => ?_) (fun hc => absurd hc (by decide))
        refine a_iconst (pc := 44) dX1_goesAt_44 (by decide) ?_
        refine a_goto (tgt := 49) (pc := 45) dX1_goesAt_45 (by decide) ?_
        refine a_istore (ls1 := [(0, l0), (0, l1), (0, 1), (0, 1), (0, 1)]) (pc := 49) dX1_goesAt_49 (by decide) (hp1 (t := 0) rfl (by decide)) rfl ?_
        refine a_iload_n (pc := 51) dX1_goesAt_51 rfl ?_
        rcases (show l0 < 1 ∨ 5 < l0 ∨ l0 = 1 ∨ l0 = 2 ∨ l0 = 3 ∨ l0 = 4 ∨ l0 = 5 by omega) with hc | hc | hc | hc | hc | hc | hc
        · replace h := h.1 (by omega)
          refine a_tabOut (tgt := 115) (pc := 52) dX1_goesAt_52 (by omega) (by decide) ?_
          refine a_iconst (pc := 115) dX1_goesAt_115 (by decide) ?_
          exact a_iretz (pc := 116) dX1_goesAt_116 rfl rfl (Nat.le_of_ble_eq_true rfl) (by decide) ⟨rfl, h⟩
        · replace h := h.1 (by omega)
          refine a_tabOut (tgt := 115) (pc := 52) dX1_goesAt_52 (by omega) (by decide) ?_
          refine a_iconst (pc := 115) dX1_goesAt_115 (by decide) ?_
          exact a_iretz (pc := 116) dX1_goesAt_116 rfl rfl (Nat.le_of_ble_eq_true rfl) (by decide) ⟨rfl, h⟩
        · replace h := h.2.1 hc
          refine a_tabIn (v := 1) (off := 36) (tgt := 88) (pc := 52) dX1_goesAt_52 hc (by decide) (by decide) rfl (by decide) ?_
          refine a_iload_n (pc := 88) dX1_goesAt_88 rfl ?_
          exact a_iretz (pc := 89) dX1_goesAt_89 rfl rfl (Nat.le_of_ble_eq_true rfl) (by decide) ⟨rfl, h⟩
        · replace h := h.2.2.1 hc
          refine a_tabIn (v := 2) (off := 38) (tgt := 90) (pc := 52) dX1_goesAt_52 hc (by decide) (by decide) rfl (by decide) ?_
          refine a_iload_n (pc := 90) dX1_goesAt_90 rfl ?_
          exact a_iretz (pc := 91) dX1_goesAt_91 rfl rfl (Nat.le_of_ble_eq_true rfl) (by decide) ⟨rfl, h⟩
        · replace h := h.2.2.2.1 hc
          refine a_tabIn (v := 3) (off := 40) (tgt := 92) (pc := 52) dX1_goesAt_52 hc (by decide) (by decide) rfl (by decide) ?_
          refine a_iload (pc := 92) dX1_goesAt_92 rfl ?_
          exact a_iretz (pc := 94) dX1_goesAt_94 rfl rfl (Nat.le_of_ble_eq_true rfl) (by decide) ⟨rfl, h⟩
        · replace h := h.2.2.2.2.1 hc
          refine a_tabIn (v := 4) (off := 43) (tgt := 95) (pc := 52) dX1_goesAt_52 hc (by decide) (by decide) rfl (by decide) ?_
          refine a_iload_n (pc := 95) dX1_goesAt_95 rfl ?_
          refine a_if_eq (tgt := 110) (pc := 96) dX1_goesAt_96 (by decide) (fun hc => absurd hc (by decide)) (fun _ => ?_)
          refine a_iload_n (pc := 99) dX1_goesAt_99 rfl ?_
          refine a_sipush (pc := 100) dX1_goesAt_100 (by decide) (by decide +kernel) ?_
          refine a_icmp_lt (tgt := 110) (pc := 103) dX1_goesAt_103 (by decide) (fun hc13 => ?_) (fun hc13 => ?_)
          · replace h := h.1 hc13
            refine a_iconst (pc := 110) dX1_goesAt_110 (by decide) ?_
            exact a_iretz (pc := 111) dX1_goesAt_111 rfl rfl (Nat.le_of_ble_eq_true rfl) (by decide) ⟨rfl, h⟩
          · replace h := h.2 hc13
            refine a_iconst (pc := 106) dX1_goesAt_106 (by decide) ?_
            refine a_goto (tgt := 111) (pc := 107) dX1_goesAt_107 (by decide) ?_
            exact a_iretz (pc := 111) dX1_goesAt_111 rfl rfl (Nat.le_of_ble_eq_true rfl) (by decide) ⟨rfl, h⟩
        · replace h := h.2.2.2.2.2 hc
          refine a_tabIn (v := 5) (off := 60) (tgt := 112) (pc := 52) dX1_goesAt_52 hc (by decide) (by decide) rfl (by decide) ?_
          refine a_iload (pc := 112) dX1_goesAt_112 rfl ?_
          exact a_iretz (pc := 114) dX1_goesAt_114 rfl rfl (Nat.le_of_ble_eq_true rfl) (by decide) ⟨rfl, h⟩
theorem E_Kinds_goesAt {l0 l1 : Int} {M : Mem} {Q : Int → Mem → Prop} (h : AW mX1_goesAt 0 [(0, l0), (0, l1), (9, 0), (9, 0), (9, 0)] M Q) : Calls mX1_goesAt [(0, l0), (0, l1)] S0 M Q := calls_of (by decide) (by decide) (Nat.le_of_ble_eq_true rfl) rfl h
set_option maxRecDepth 100000 in
set_option maxHeartbeats 4000000 in
theorem B_Kinds_price_0 {l0 l1 : Int} {M : Mem} {Q : Int → Mem → Prop} (h : (-2147483648 ≤ l1 + 2 ∧ l1 + 2 ≤ 2147483647) ∧ (-2147483648 ≤ (l1 + 2) + 1 ∧ (l1 + 2) + 1 ≤ 2147483647) ∧ (-2147483648 ≤ 2 * (l1 + 2) ∧ 2 * (l1 + 2) ≤ 2147483647) ∧ ((l0 < 1 ∨ 5 < l0 ∨ l0 = 2 → Q (l1 + 2) M) ∧ (l0 = 1 → Q ((l1 + 2) + 1) M) ∧ (l0 = 3 → Q (2 * (l1 + 2)) M) ∧ (l0 = 4 → (-2147483648 ≤ ((l1 + 2) + 1) + 5 ∧ ((l1 + 2) + 1) + 5 ≤ 2147483647) ∧ Q (((l1 + 2) + 1) + 5) M) ∧ (l0 = 5 → (-2147483648 ≤ (2 * (l1 + 2)) - 3 ∧ (2 * (l1 + 2)) - 3 ≤ 2147483647) ∧ Q ((2 * (l1 + 2)) - 3) M))) : AW mX1_price 0 [(0, l0), (0, l1), (9, 0), (9, 0), (9, 0)] M Q := by
  refine a_iload_n (pc := 0) dX1_price_0 rfl ?_
  refine a_iconst (pc := 1) dX1_price_1 (by decide) ?_
  have ho1 := h.1
  replace h := h.2
  refine a_iadd (pc := 2) dX1_price_2 ho1 ?_
  refine a_istore_n (ls1 := [(0, l0), (0, l1), (0, l1 + 2), (9, 0), (9, 0)]) (pc := 3) dX1_price_3 (by decide) (hp1 (t := 0) rfl (by decide)) rfl ?_
  refine a_iload_n (pc := 4) dX1_price_4 rfl ?_
  refine a_iconst (pc := 5) dX1_price_5 (by decide) ?_
  have ho2 := h.1
  replace h := h.2
  refine a_iadd (pc := 6) dX1_price_6 ho2 ?_
  refine a_istore_n (ls1 := [(0, l0), (0, l1), (0, l1 + 2), (0, (l1 + 2) + 1), (9, 0)]) (pc := 7) dX1_price_7 (by decide) (hp1 (t := 0) rfl (by decide)) rfl ?_
  refine a_iconst (pc := 8) dX1_price_8 (by decide) ?_
  refine a_iload_n (pc := 9) dX1_price_9 rfl ?_
  have ho3 := h.1
  replace h := h.2
  refine a_imul (pc := 10) dX1_price_10 ho3 ?_
  refine a_istore (ls1 := [(0, l0), (0, l1), (0, l1 + 2), (0, (l1 + 2) + 1), (0, 2 * (l1 + 2))]) (pc := 11) dX1_price_11 (by decide) (hp1 (t := 0) rfl (by decide)) rfl ?_
  refine a_iload_n (pc := 13) dX1_price_13 rfl ?_
  rcases (show l0 < 1 ∨ 5 < l0 ∨ l0 = 1 ∨ l0 = 2 ∨ l0 = 3 ∨ l0 = 4 ∨ l0 = 5 by omega) with hc | hc | hc | hc | hc | hc | hc
  · replace h := h.1 (by omega)
    refine a_tabOut (tgt := 62) (pc := 14) dX1_price_14 (by omega) (by decide) ?_
    refine a_iload_n (pc := 62) dX1_price_62 rfl ?_
    exact a_ireti (pc := 63) dX1_price_63 rfl rfl (Nat.le_of_ble_eq_true rfl) ⟨rfl, h⟩
  · replace h := h.1 (by omega)
    refine a_tabOut (tgt := 62) (pc := 14) dX1_price_14 (by omega) (by decide) ?_
    refine a_iload_n (pc := 62) dX1_price_62 rfl ?_
    exact a_ireti (pc := 63) dX1_price_63 rfl rfl (Nat.le_of_ble_eq_true rfl) ⟨rfl, h⟩
  · replace h := h.2.1 hc
    refine a_tabIn (v := 1) (off := 34) (tgt := 48) (pc := 14) dX1_price_14 hc (by decide) (by decide) rfl (by decide) ?_
    refine a_iload_n (pc := 48) dX1_price_48 rfl ?_
    exact a_ireti (pc := 49) dX1_price_49 rfl rfl (Nat.le_of_ble_eq_true rfl) ⟨rfl, h⟩
  · replace h := h.1 (by omega)
    refine a_tabIn (v := 2) (off := 48) (tgt := 62) (pc := 14) dX1_price_14 hc (by decide) (by decide) rfl (by decide) ?_
    refine a_iload_n (pc := 62) dX1_price_62 rfl ?_
    exact a_ireti (pc := 63) dX1_price_63 rfl rfl (Nat.le_of_ble_eq_true rfl) ⟨rfl, h⟩
  · replace h := h.2.2.1 hc
    refine a_tabIn (v := 3) (off := 36) (tgt := 50) (pc := 14) dX1_price_14 hc (by decide) (by decide) rfl (by decide) ?_
    refine a_iload (pc := 50) dX1_price_50 rfl ?_
    exact a_ireti (pc := 52) dX1_price_52 rfl rfl (Nat.le_of_ble_eq_true rfl) ⟨rfl, h⟩
  · replace h := h.2.2.2.1 hc
    refine a_tabIn (v := 4) (off := 39) (tgt := 53) (pc := 14) dX1_price_14 hc (by decide) (by decide) rfl (by decide) ?_
    refine a_iload_n (pc := 53) dX1_price_53 rfl ?_
    refine a_iconst (pc := 54) dX1_price_54 (by decide) ?_
    have ho4 := h.1
    replace h := h.2
    refine a_iadd (pc := 55) dX1_price_55 ho4 ?_
    exact a_ireti (pc := 56) dX1_price_56 rfl rfl (Nat.le_of_ble_eq_true rfl) ⟨rfl, h⟩
  · replace h := h.2.2.2.2 hc
    refine a_tabIn (v := 5) (off := 43) (tgt := 57) (pc := 14) dX1_price_14 hc (by decide) (by decide) rfl (by decide) ?_
    refine a_iload (pc := 57) dX1_price_57 rfl ?_
    refine a_iconst (pc := 59) dX1_price_59 (by decide) ?_
    have ho5 := h.1
    replace h := h.2
    refine a_isub (pc := 60) dX1_price_60 ho5 ?_
    exact a_ireti (pc := 61) dX1_price_61 rfl rfl (Nat.le_of_ble_eq_true rfl) ⟨rfl, h⟩
theorem E_Kinds_price {l0 l1 : Int} {M : Mem} {Q : Int → Mem → Prop} (h : AW mX1_price 0 [(0, l0), (0, l1), (9, 0), (9, 0), (9, 0)] M Q) : Calls mX1_price [(0, l0), (0, l1)] S0 M Q := calls_of (by decide) (by decide) (Nat.le_of_ble_eq_true rfl) rfl h
set_option maxRecDepth 100000 in
set_option maxHeartbeats 4000000 in
theorem B_Net_copyFrom_1_0 {M : Mem} {Q : Int → Mem → Prop} (h : AW mX3_copyFrom 70 [(2, 1), (2, 153), (0, 0)] (cpyM (cpyM (cpyM (cpyM (up2 M 1 0 (M 153 0)) 154 2 8) 155 3 8) 156 4 8) 215 63 48) Q) : AW mX3_copyFrom 0 [(2, 1), (2, 153), (9, 0)] M Q := by
  refine a_aload_n (pc := 0) dX3_copyFrom_0 (by decide) rfl ?_
  refine a_aload_n (pc := 1) dX3_copyFrom_1 (by decide) rfl ?_
  refine a_getI (y := 0) (pc := 2) dX3_copyFrom_2 fl_RX3_9 (by decide) s0_153 (Or.inl rfl) rfl ?_
  refine a_putI (y := 0) (pc := 5) dX3_copyFrom_5 fl_RX3_9 (by decide) s0_1 rfl rfl (tyX3_ok 0 (by decide)) rfl ?_
  refine a_aload_n (pc := 8) dX3_copyFrom_8 (by decide) rfl ?_
  refine a_getR (y := 154) (pc := 9) dX3_copyFrom_9 fl_RX3_15 (by decide) s0_153 rfl rfl ?_
  refine a_iconst (pc := 12) dX3_copyFrom_12 (by decide) ?_
  refine a_aload_n (pc := 13) dX3_copyFrom_13 (by decide) rfl ?_
  refine a_getR (y := 2) (pc := 14) dX3_copyFrom_14 fl_RX3_15 (by decide) s0_1 rfl rfl ?_
  refine a_iconst (pc := 17) dX3_copyFrom_17 (by decide) ?_
  refine a_bipush (pc := 18) dX3_copyFrom_18 (by decide) (by decide +kernel) ?_
  refine a_copy (pc := 20) dX3_copyFrom_20 al_RX3 w_an w_as w_ay (by decide) (by decide) s0_154 s0_2 (by decide) (by decide) (by decide) (by decide) (by decide) (Nat.le_of_ble_eq_true rfl) ?_
  refine a_aload_n (pc := 23) dX3_copyFrom_23 (by decide) rfl ?_
  refine a_getR (y := 155) (pc := 24) dX3_copyFrom_24 fl_RX3_19 (by decide) s0_153 rfl rfl ?_
  refine a_iconst (pc := 27) dX3_copyFrom_27 (by decide) ?_
  refine a_aload_n (pc := 28) dX3_copyFrom_28 (by decide) rfl ?_
  refine a_getR (y := 3) (pc := 29) dX3_copyFrom_29 fl_RX3_19 (by decide) s0_1 rfl rfl ?_
  refine a_iconst (pc := 32) dX3_copyFrom_32 (by decide) ?_
  refine a_bipush (pc := 33) dX3_copyFrom_33 (by decide) (by decide +kernel) ?_
  refine a_copy (pc := 35) dX3_copyFrom_35 al_RX3 w_an w_as w_ay (by decide) (by decide) s0_155 s0_3 (by decide) (by decide) (by decide) (by decide) (by decide) (Nat.le_of_ble_eq_true rfl) ?_
  refine a_aload_n (pc := 38) dX3_copyFrom_38 (by decide) rfl ?_
  refine a_getR (y := 156) (pc := 39) dX3_copyFrom_39 fl_RX3_22 (by decide) s0_153 rfl rfl ?_
  refine a_iconst (pc := 42) dX3_copyFrom_42 (by decide) ?_
  refine a_aload_n (pc := 43) dX3_copyFrom_43 (by decide) rfl ?_
  refine a_getR (y := 4) (pc := 44) dX3_copyFrom_44 fl_RX3_22 (by decide) s0_1 rfl rfl ?_
  refine a_iconst (pc := 47) dX3_copyFrom_47 (by decide) ?_
  refine a_bipush (pc := 48) dX3_copyFrom_48 (by decide) (by decide +kernel) ?_
  refine a_copy (pc := 50) dX3_copyFrom_50 al_RX3 w_an w_as w_ay (by decide) (by decide) s0_156 s0_4 (by decide) (by decide) (by decide) (by decide) (by decide) (Nat.le_of_ble_eq_true rfl) ?_
  refine a_aload_n (pc := 53) dX3_copyFrom_53 (by decide) rfl ?_
  refine a_getR (y := 215) (pc := 54) dX3_copyFrom_54 fl_RX3_33 (by decide) s0_153 rfl rfl ?_
  refine a_iconst (pc := 57) dX3_copyFrom_57 (by decide) ?_
  refine a_aload_n (pc := 58) dX3_copyFrom_58 (by decide) rfl ?_
  refine a_getR (y := 63) (pc := 59) dX3_copyFrom_59 fl_RX3_33 (by decide) s0_1 rfl rfl ?_
  refine a_iconst (pc := 62) dX3_copyFrom_62 (by decide) ?_
  refine a_bipush (pc := 63) dX3_copyFrom_63 (by decide) (by decide +kernel) ?_
  refine a_copy (pc := 65) dX3_copyFrom_65 al_RX3 w_an w_as w_ay (by decide) (by decide) s0_215 s0_63 (by decide) (by decide) (by decide) (by decide) (by decide) (Nat.le_of_ble_eq_true rfl) ?_
  refine a_iconst (pc := 68) dX3_copyFrom_68 (by decide) ?_
  refine a_istore_n (ls1 := [(2, 1), (2, 153), (0, 0)]) (pc := 69) dX3_copyFrom_69 (by decide) (hp1 (t := 2) rfl (by decide)) rfl ?_
  exact h
set_option maxRecDepth 100000 in
set_option maxHeartbeats 4000000 in
theorem B_Net_copyFrom_1_70 {l2 : Int} {M : Mem} {Q : Int → Mem → Prop} (h : ((8 ≤ l2 → AW mX3_copyFrom 103 [(2, 1), (2, 153), (0, 0)] M Q) ∧ (¬ (8 ≤ l2) → ((0 : Int) ≤ l2 ∧ l2 < 8) ∧ (-2147483648 ≤ l2 + 1 ∧ l2 + 1 ≤ 2147483647) ∧ AW mX3_copyFrom 70 [(2, 1), (2, 153), (0, l2 + 1)] (cpyM M (158 + l2) (6 + l2) 6) Q))) : AW mX3_copyFrom 70 [(2, 1), (2, 153), (0, l2)] M Q := by
  refine a_iload_n (pc := 70) dX3_copyFrom_70 rfl ?_
  refine a_bipush (pc := 71) dX3_copyFrom_71 (by decide) (by decide +kernel) ?_
  refine a_icmp_ge (tgt := 101) (pc := 73) dX3_copyFrom_73 (by decide) (fun hc1 => ?_) (fun hc1 => ?_)
  · replace h := h.1 hc1
    refine a_iconst (pc := 101) dX3_copyFrom_101 (by decide) ?_
    refine a_istore_n (ls1 := [(2, 1), (2, 153), (0, 0)]) (pc := 102) dX3_copyFrom_102 (by decide) (hp1 (t := 2) rfl (by decide)) rfl ?_
    exact h
  · replace h := h.2 hc1
    refine a_aload_n (pc := 76) dX3_copyFrom_76 (by decide) rfl ?_
    refine a_getR (y := 157) (pc := 77) dX3_copyFrom_77 fl_RX3_27 (by decide) s0_153 rfl rfl ?_
    refine a_iload_n (pc := 80) dX3_copyFrom_80 rfl ?_
    have ho2 := h.1
    replace h := h.2
    have hr3 := rw_157 l2 ho2.1 ho2.2
    refine a_aald (y := 158 + l2) (pc := 81) dX3_copyFrom_81 (by decide) s0_157 ho2.1 ho2.2 (by omega) ?_
    refine a_iconst (pc := 82) dX3_copyFrom_82 (by decide) ?_
    refine a_aload_n (pc := 83) dX3_copyFrom_83 (by decide) rfl ?_
    refine a_getR (y := 5) (pc := 84) dX3_copyFrom_84 fl_RX3_27 (by decide) s0_1 rfl rfl ?_
    refine a_iload_n (pc := 87) dX3_copyFrom_87 rfl ?_
    have hr4 := rw_5 l2 ho2.1 ho2.2
    refine a_aald (y := 6 + l2) (pc := 88) dX3_copyFrom_88 (by decide) s0_5 ho2.1 ho2.2 (by omega) ?_
    refine a_iconst (pc := 89) dX3_copyFrom_89 (by decide) ?_
    refine a_bipush (pc := 90) dX3_copyFrom_90 (by decide) (by decide +kernel) ?_
    refine a_copy (pc := 92) dX3_copyFrom_92 al_RX3 w_an w_as w_ay hr3.1 hr4.1 hr3.2 hr4.2 (by decide) (by decide) (by decide) (by decide) (by decide) (Nat.le_of_ble_eq_true rfl) ?_
    have ho5 := h.1
    replace h := h.2
    refine a_iinc (ls1 := [(2, 1), (2, 153), (0, l2 + 1)]) (pc := 95) dX3_copyFrom_95 rfl (by decide) (hp1 (t := 2) rfl (by decide)) ho5 rfl ?_
    refine a_goto (tgt := 70) (pc := 98) dX3_copyFrom_98 (by decide) ?_
    exact h
set_option maxRecDepth 100000 in
set_option maxHeartbeats 4000000 in
theorem B_Net_copyFrom_1_103 {l2 : Int} {M : Mem} {Q : Int → Mem → Prop} (h : ((48 ≤ l2 → AW mX3_copyFrom 136 [(2, 1), (2, 153), (0, 0)] M Q) ∧ (¬ (48 ≤ l2) → ((0 : Int) ≤ l2 ∧ l2 < 48) ∧ (-2147483648 ≤ l2 + 1 ∧ l2 + 1 ≤ 2147483647) ∧ AW mX3_copyFrom 103 [(2, 1), (2, 153), (0, l2 + 1)] (cpyM M (167 + l2) (15 + l2) 6) Q))) : AW mX3_copyFrom 103 [(2, 1), (2, 153), (0, l2)] M Q := by
  refine a_iload_n (pc := 103) dX3_copyFrom_103 rfl ?_
  refine a_bipush (pc := 104) dX3_copyFrom_104 (by decide) (by decide +kernel) ?_
  refine a_icmp_ge (tgt := 134) (pc := 106) dX3_copyFrom_106 (by decide) (fun hc1 => ?_) (fun hc1 => ?_)
  · replace h := h.1 hc1
    refine a_iconst (pc := 134) dX3_copyFrom_134 (by decide) ?_
    refine a_istore_n (ls1 := [(2, 1), (2, 153), (0, 0)]) (pc := 135) dX3_copyFrom_135 (by decide) (hp1 (t := 2) rfl (by decide)) rfl ?_
    exact h
  · replace h := h.2 hc1
    refine a_aload_n (pc := 109) dX3_copyFrom_109 (by decide) rfl ?_
    refine a_getR (y := 166) (pc := 110) dX3_copyFrom_110 fl_RX3_30 (by decide) s0_153 rfl rfl ?_
    refine a_iload_n (pc := 113) dX3_copyFrom_113 rfl ?_
    have ho2 := h.1
    replace h := h.2
    have hr3 := rw_166 l2 ho2.1 ho2.2
    refine a_aald (y := 167 + l2) (pc := 114) dX3_copyFrom_114 (by decide) s0_166 ho2.1 ho2.2 (by omega) ?_
    refine a_iconst (pc := 115) dX3_copyFrom_115 (by decide) ?_
    refine a_aload_n (pc := 116) dX3_copyFrom_116 (by decide) rfl ?_
    refine a_getR (y := 14) (pc := 117) dX3_copyFrom_117 fl_RX3_30 (by decide) s0_1 rfl rfl ?_
    refine a_iload_n (pc := 120) dX3_copyFrom_120 rfl ?_
    have hr4 := rw_14 l2 ho2.1 ho2.2
    refine a_aald (y := 15 + l2) (pc := 121) dX3_copyFrom_121 (by decide) s0_14 ho2.1 ho2.2 (by omega) ?_
    refine a_iconst (pc := 122) dX3_copyFrom_122 (by decide) ?_
    refine a_bipush (pc := 123) dX3_copyFrom_123 (by decide) (by decide +kernel) ?_
    refine a_copy (pc := 125) dX3_copyFrom_125 al_RX3 w_an w_as w_ay hr3.1 hr4.1 hr3.2 hr4.2 (by decide) (by decide) (by decide) (by decide) (by decide) (Nat.le_of_ble_eq_true rfl) ?_
    have ho5 := h.1
    replace h := h.2
    refine a_iinc (ls1 := [(2, 1), (2, 153), (0, l2 + 1)]) (pc := 128) dX3_copyFrom_128 rfl (by decide) (hp1 (t := 2) rfl (by decide)) ho5 rfl ?_
    refine a_goto (tgt := 103) (pc := 131) dX3_copyFrom_131 (by decide) ?_
    exact h
set_option maxRecDepth 100000 in
set_option maxHeartbeats 4000000 in
theorem B_Net_copyFrom_1_136 {l2 : Int} {M : Mem} {Q : Int → Mem → Prop} (h : ((12 ≤ l2 → Q 0 M) ∧ (¬ (12 ≤ l2) → ((0 : Int) ≤ l2 ∧ l2 < 12) ∧ (-2147483648 ≤ l2 + 1 ∧ l2 + 1 ≤ 2147483647) ∧ AW mX3_copyFrom 136 [(2, 1), (2, 153), (0, l2 + 1)] (cpyM M (217 + l2) (65 + l2) 12) Q))) : AW mX3_copyFrom 136 [(2, 1), (2, 153), (0, l2)] M Q := by
  refine a_iload_n (pc := 136) dX3_copyFrom_136 rfl ?_
  refine a_bipush (pc := 137) dX3_copyFrom_137 (by decide) (by decide +kernel) ?_
  refine a_icmp_ge (tgt := 167) (pc := 139) dX3_copyFrom_139 (by decide) (fun hc1 => ?_) (fun hc1 => ?_)
  · replace h := h.1 hc1
    exact a_vret (pc := 167) dX3_copyFrom_167 rfl rfl (Nat.le_of_ble_eq_true rfl) ⟨rfl, h⟩
  · replace h := h.2 hc1
    refine a_aload_n (pc := 142) dX3_copyFrom_142 (by decide) rfl ?_
    refine a_getR (y := 216) (pc := 143) dX3_copyFrom_143 fl_RX3_36 (by decide) s0_153 rfl rfl ?_
    refine a_iload_n (pc := 146) dX3_copyFrom_146 rfl ?_
    have ho2 := h.1
    replace h := h.2
    have hr3 := rw_216 l2 ho2.1 ho2.2
    refine a_aald (y := 217 + l2) (pc := 147) dX3_copyFrom_147 (by decide) s0_216 ho2.1 ho2.2 (by omega) ?_
    refine a_iconst (pc := 148) dX3_copyFrom_148 (by decide) ?_
    refine a_aload_n (pc := 149) dX3_copyFrom_149 (by decide) rfl ?_
    refine a_getR (y := 64) (pc := 150) dX3_copyFrom_150 fl_RX3_36 (by decide) s0_1 rfl rfl ?_
    refine a_iload_n (pc := 153) dX3_copyFrom_153 rfl ?_
    have hr4 := rw_64 l2 ho2.1 ho2.2
    refine a_aald (y := 65 + l2) (pc := 154) dX3_copyFrom_154 (by decide) s0_64 ho2.1 ho2.2 (by omega) ?_
    refine a_iconst (pc := 155) dX3_copyFrom_155 (by decide) ?_
    refine a_bipush (pc := 156) dX3_copyFrom_156 (by decide) (by decide +kernel) ?_
    refine a_copy (pc := 158) dX3_copyFrom_158 al_RX3 w_an w_as w_ay hr3.1 hr4.1 hr3.2 hr4.2 (by decide) (by decide) (by decide) (by decide) (by decide) (Nat.le_of_ble_eq_true rfl) ?_
    have ho5 := h.1
    replace h := h.2
    refine a_iinc (ls1 := [(2, 1), (2, 153), (0, l2 + 1)]) (pc := 161) dX3_copyFrom_161 rfl (by decide) (hp1 (t := 2) rfl (by decide)) ho5 rfl ?_
    refine a_goto (tgt := 136) (pc := 164) dX3_copyFrom_164 (by decide) ?_
    exact h
theorem E_Net_copyFrom_1 {M : Mem} {Q : Int → Mem → Prop} (h : AW mX3_copyFrom 0 [(2, 1), (2, 153), (9, 0)] M Q) : Calls mX3_copyFrom [(2, 1), (2, 153)] S0 M Q := calls_of (by decide) (by decide) (Nat.le_of_ble_eq_true rfl) rfl h
set_option maxRecDepth 100000 in
set_option maxHeartbeats 4000000 in
theorem B_Net_copyFrom_2_0 {M : Mem} {Q : Int → Mem → Prop} (h : AW mX3_copyFrom 70 [(2, 1), (2, 77), (0, 0)] (cpyM (cpyM (cpyM (cpyM (up2 M 1 0 (M 77 0)) 78 2 8) 79 3 8) 80 4 8) 139 63 48) Q) : AW mX3_copyFrom 0 [(2, 1), (2, 77), (9, 0)] M Q := by
  refine a_aload_n (pc := 0) dX3_copyFrom_0 (by decide) rfl ?_
  refine a_aload_n (pc := 1) dX3_copyFrom_1 (by decide) rfl ?_
  refine a_getI (y := 0) (pc := 2) dX3_copyFrom_2 fl_RX3_9 (by decide) s0_77 (Or.inl rfl) rfl ?_
  refine a_putI (y := 0) (pc := 5) dX3_copyFrom_5 fl_RX3_9 (by decide) s0_1 rfl rfl (tyX3_ok 0 (by decide)) rfl ?_
  refine a_aload_n (pc := 8) dX3_copyFrom_8 (by decide) rfl ?_
  refine a_getR (y := 78) (pc := 9) dX3_copyFrom_9 fl_RX3_15 (by decide) s0_77 rfl rfl ?_
  refine a_iconst (pc := 12) dX3_copyFrom_12 (by decide) ?_
  refine a_aload_n (pc := 13) dX3_copyFrom_13 (by decide) rfl ?_
  refine a_getR (y := 2) (pc := 14) dX3_copyFrom_14 fl_RX3_15 (by decide) s0_1 rfl rfl ?_
  refine a_iconst (pc := 17) dX3_copyFrom_17 (by decide) ?_
  refine a_bipush (pc := 18) dX3_copyFrom_18 (by decide) (by decide +kernel) ?_
  refine a_copy (pc := 20) dX3_copyFrom_20 al_RX3 w_an w_as w_ay (by decide) (by decide) s0_78 s0_2 (by decide) (by decide) (by decide) (by decide) (by decide) (Nat.le_of_ble_eq_true rfl) ?_
  refine a_aload_n (pc := 23) dX3_copyFrom_23 (by decide) rfl ?_
  refine a_getR (y := 79) (pc := 24) dX3_copyFrom_24 fl_RX3_19 (by decide) s0_77 rfl rfl ?_
  refine a_iconst (pc := 27) dX3_copyFrom_27 (by decide) ?_
  refine a_aload_n (pc := 28) dX3_copyFrom_28 (by decide) rfl ?_
  refine a_getR (y := 3) (pc := 29) dX3_copyFrom_29 fl_RX3_19 (by decide) s0_1 rfl rfl ?_
  refine a_iconst (pc := 32) dX3_copyFrom_32 (by decide) ?_
  refine a_bipush (pc := 33) dX3_copyFrom_33 (by decide) (by decide +kernel) ?_
  refine a_copy (pc := 35) dX3_copyFrom_35 al_RX3 w_an w_as w_ay (by decide) (by decide) s0_79 s0_3 (by decide) (by decide) (by decide) (by decide) (by decide) (Nat.le_of_ble_eq_true rfl) ?_
  refine a_aload_n (pc := 38) dX3_copyFrom_38 (by decide) rfl ?_
  refine a_getR (y := 80) (pc := 39) dX3_copyFrom_39 fl_RX3_22 (by decide) s0_77 rfl rfl ?_
  refine a_iconst (pc := 42) dX3_copyFrom_42 (by decide) ?_
  refine a_aload_n (pc := 43) dX3_copyFrom_43 (by decide) rfl ?_
  refine a_getR (y := 4) (pc := 44) dX3_copyFrom_44 fl_RX3_22 (by decide) s0_1 rfl rfl ?_
  refine a_iconst (pc := 47) dX3_copyFrom_47 (by decide) ?_
  refine a_bipush (pc := 48) dX3_copyFrom_48 (by decide) (by decide +kernel) ?_
  refine a_copy (pc := 50) dX3_copyFrom_50 al_RX3 w_an w_as w_ay (by decide) (by decide) s0_80 s0_4 (by decide) (by decide) (by decide) (by decide) (by decide) (Nat.le_of_ble_eq_true rfl) ?_
  refine a_aload_n (pc := 53) dX3_copyFrom_53 (by decide) rfl ?_
  refine a_getR (y := 139) (pc := 54) dX3_copyFrom_54 fl_RX3_33 (by decide) s0_77 rfl rfl ?_
  refine a_iconst (pc := 57) dX3_copyFrom_57 (by decide) ?_
  refine a_aload_n (pc := 58) dX3_copyFrom_58 (by decide) rfl ?_
  refine a_getR (y := 63) (pc := 59) dX3_copyFrom_59 fl_RX3_33 (by decide) s0_1 rfl rfl ?_
  refine a_iconst (pc := 62) dX3_copyFrom_62 (by decide) ?_
  refine a_bipush (pc := 63) dX3_copyFrom_63 (by decide) (by decide +kernel) ?_
  refine a_copy (pc := 65) dX3_copyFrom_65 al_RX3 w_an w_as w_ay (by decide) (by decide) s0_139 s0_63 (by decide) (by decide) (by decide) (by decide) (by decide) (Nat.le_of_ble_eq_true rfl) ?_
  refine a_iconst (pc := 68) dX3_copyFrom_68 (by decide) ?_
  refine a_istore_n (ls1 := [(2, 1), (2, 77), (0, 0)]) (pc := 69) dX3_copyFrom_69 (by decide) (hp1 (t := 2) rfl (by decide)) rfl ?_
  exact h
set_option maxRecDepth 100000 in
set_option maxHeartbeats 4000000 in
theorem B_Net_copyFrom_2_70 {l2 : Int} {M : Mem} {Q : Int → Mem → Prop} (h : ((8 ≤ l2 → AW mX3_copyFrom 103 [(2, 1), (2, 77), (0, 0)] M Q) ∧ (¬ (8 ≤ l2) → ((0 : Int) ≤ l2 ∧ l2 < 8) ∧ (-2147483648 ≤ l2 + 1 ∧ l2 + 1 ≤ 2147483647) ∧ AW mX3_copyFrom 70 [(2, 1), (2, 77), (0, l2 + 1)] (cpyM M (82 + l2) (6 + l2) 6) Q))) : AW mX3_copyFrom 70 [(2, 1), (2, 77), (0, l2)] M Q := by
  refine a_iload_n (pc := 70) dX3_copyFrom_70 rfl ?_
  refine a_bipush (pc := 71) dX3_copyFrom_71 (by decide) (by decide +kernel) ?_
  refine a_icmp_ge (tgt := 101) (pc := 73) dX3_copyFrom_73 (by decide) (fun hc1 => ?_) (fun hc1 => ?_)
  · replace h := h.1 hc1
    refine a_iconst (pc := 101) dX3_copyFrom_101 (by decide) ?_
    refine a_istore_n (ls1 := [(2, 1), (2, 77), (0, 0)]) (pc := 102) dX3_copyFrom_102 (by decide) (hp1 (t := 2) rfl (by decide)) rfl ?_
    exact h
  · replace h := h.2 hc1
    refine a_aload_n (pc := 76) dX3_copyFrom_76 (by decide) rfl ?_
    refine a_getR (y := 81) (pc := 77) dX3_copyFrom_77 fl_RX3_27 (by decide) s0_77 rfl rfl ?_
    refine a_iload_n (pc := 80) dX3_copyFrom_80 rfl ?_
    have ho2 := h.1
    replace h := h.2
    have hr3 := rw_81 l2 ho2.1 ho2.2
    refine a_aald (y := 82 + l2) (pc := 81) dX3_copyFrom_81 (by decide) s0_81 ho2.1 ho2.2 (by omega) ?_
    refine a_iconst (pc := 82) dX3_copyFrom_82 (by decide) ?_
    refine a_aload_n (pc := 83) dX3_copyFrom_83 (by decide) rfl ?_
    refine a_getR (y := 5) (pc := 84) dX3_copyFrom_84 fl_RX3_27 (by decide) s0_1 rfl rfl ?_
    refine a_iload_n (pc := 87) dX3_copyFrom_87 rfl ?_
    have hr4 := rw_5 l2 ho2.1 ho2.2
    refine a_aald (y := 6 + l2) (pc := 88) dX3_copyFrom_88 (by decide) s0_5 ho2.1 ho2.2 (by omega) ?_
    refine a_iconst (pc := 89) dX3_copyFrom_89 (by decide) ?_
    refine a_bipush (pc := 90) dX3_copyFrom_90 (by decide) (by decide +kernel) ?_
    refine a_copy (pc := 92) dX3_copyFrom_92 al_RX3 w_an w_as w_ay hr3.1 hr4.1 hr3.2 hr4.2 (by decide) (by decide) (by decide) (by decide) (by decide) (Nat.le_of_ble_eq_true rfl) ?_
    have ho5 := h.1
    replace h := h.2
    refine a_iinc (ls1 := [(2, 1), (2, 77), (0, l2 + 1)]) (pc := 95) dX3_copyFrom_95 rfl (by decide) (hp1 (t := 2) rfl (by decide)) ho5 rfl ?_
    refine a_goto (tgt := 70) (pc := 98) dX3_copyFrom_98 (by decide) ?_
    exact h
set_option maxRecDepth 100000 in
set_option maxHeartbeats 4000000 in
theorem B_Net_copyFrom_2_103 {l2 : Int} {M : Mem} {Q : Int → Mem → Prop} (h : ((48 ≤ l2 → AW mX3_copyFrom 136 [(2, 1), (2, 77), (0, 0)] M Q) ∧ (¬ (48 ≤ l2) → ((0 : Int) ≤ l2 ∧ l2 < 48) ∧ (-2147483648 ≤ l2 + 1 ∧ l2 + 1 ≤ 2147483647) ∧ AW mX3_copyFrom 103 [(2, 1), (2, 77), (0, l2 + 1)] (cpyM M (91 + l2) (15 + l2) 6) Q))) : AW mX3_copyFrom 103 [(2, 1), (2, 77), (0, l2)] M Q := by
  refine a_iload_n (pc := 103) dX3_copyFrom_103 rfl ?_
  refine a_bipush (pc := 104) dX3_copyFrom_104 (by decide) (by decide +kernel) ?_
  refine a_icmp_ge (tgt := 134) (pc := 106) dX3_copyFrom_106 (by decide) (fun hc1 => ?_) (fun hc1 => ?_)
  · replace h := h.1 hc1
    refine a_iconst (pc := 134) dX3_copyFrom_134 (by decide) ?_
    refine a_istore_n (ls1 := [(2, 1), (2, 77), (0, 0)]) (pc := 135) dX3_copyFrom_135 (by decide) (hp1 (t := 2) rfl (by decide)) rfl ?_
    exact h
  · replace h := h.2 hc1
    refine a_aload_n (pc := 109) dX3_copyFrom_109 (by decide) rfl ?_
    refine a_getR (y := 90) (pc := 110) dX3_copyFrom_110 fl_RX3_30 (by decide) s0_77 rfl rfl ?_
    refine a_iload_n (pc := 113) dX3_copyFrom_113 rfl ?_
    have ho2 := h.1
    replace h := h.2
    have hr3 := rw_90 l2 ho2.1 ho2.2
    refine a_aald (y := 91 + l2) (pc := 114) dX3_copyFrom_114 (by decide) s0_90 ho2.1 ho2.2 (by omega) ?_
    refine a_iconst (pc := 115) dX3_copyFrom_115 (by decide) ?_
    refine a_aload_n (pc := 116) dX3_copyFrom_116 (by decide) rfl ?_
    refine a_getR (y := 14) (pc := 117) dX3_copyFrom_117 fl_RX3_30 (by decide) s0_1 rfl rfl ?_
    refine a_iload_n (pc := 120) dX3_copyFrom_120 rfl ?_
    have hr4 := rw_14 l2 ho2.1 ho2.2
    refine a_aald (y := 15 + l2) (pc := 121) dX3_copyFrom_121 (by decide) s0_14 ho2.1 ho2.2 (by omega) ?_
    refine a_iconst (pc := 122) dX3_copyFrom_122 (by decide) ?_
    refine a_bipush (pc := 123) dX3_copyFrom_123 (by decide) (by decide +kernel) ?_
    refine a_copy (pc := 125) dX3_copyFrom_125 al_RX3 w_an w_as w_ay hr3.1 hr4.1 hr3.2 hr4.2 (by decide) (by decide) (by decide) (by decide) (by decide) (Nat.le_of_ble_eq_true rfl) ?_
    have ho5 := h.1
    replace h := h.2
    refine a_iinc (ls1 := [(2, 1), (2, 77), (0, l2 + 1)]) (pc := 128) dX3_copyFrom_128 rfl (by decide) (hp1 (t := 2) rfl (by decide)) ho5 rfl ?_
    refine a_goto (tgt := 103) (pc := 131) dX3_copyFrom_131 (by decide) ?_
    exact h
set_option maxRecDepth 100000 in
set_option maxHeartbeats 4000000 in
theorem B_Net_copyFrom_2_136 {l2 : Int} {M : Mem} {Q : Int → Mem → Prop} (h : ((12 ≤ l2 → Q 0 M) ∧ (¬ (12 ≤ l2) → ((0 : Int) ≤ l2 ∧ l2 < 12) ∧ (-2147483648 ≤ l2 + 1 ∧ l2 + 1 ≤ 2147483647) ∧ AW mX3_copyFrom 136 [(2, 1), (2, 77), (0, l2 + 1)] (cpyM M (141 + l2) (65 + l2) 12) Q))) : AW mX3_copyFrom 136 [(2, 1), (2, 77), (0, l2)] M Q := by
  refine a_iload_n (pc := 136) dX3_copyFrom_136 rfl ?_
  refine a_bipush (pc := 137) dX3_copyFrom_137 (by decide) (by decide +kernel) ?_
  refine a_icmp_ge (tgt := 167) (pc := 139) dX3_copyFrom_139 (by decide) (fun hc1 => ?_) (fun hc1 => ?_)
  · replace h := h.1 hc1
    exact a_vret (pc := 167) dX3_copyFrom_167 rfl rfl (Nat.le_of_ble_eq_true rfl) ⟨rfl, h⟩
  · replace h := h.2 hc1
    refine a_aload_n (pc := 142) dX3_copyFrom_142 (by decide) rfl ?_
    refine a_getR (y := 140) (pc := 143) dX3_copyFrom_143 fl_RX3_36 (by decide) s0_77 rfl rfl ?_
    refine a_iload_n (pc := 146) dX3_copyFrom_146 rfl ?_
    have ho2 := h.1
    replace h := h.2
    have hr3 := rw_140 l2 ho2.1 ho2.2
    refine a_aald (y := 141 + l2) (pc := 147) dX3_copyFrom_147 (by decide) s0_140 ho2.1 ho2.2 (by omega) ?_
    refine a_iconst (pc := 148) dX3_copyFrom_148 (by decide) ?_
    refine a_aload_n (pc := 149) dX3_copyFrom_149 (by decide) rfl ?_
    refine a_getR (y := 64) (pc := 150) dX3_copyFrom_150 fl_RX3_36 (by decide) s0_1 rfl rfl ?_
    refine a_iload_n (pc := 153) dX3_copyFrom_153 rfl ?_
    have hr4 := rw_64 l2 ho2.1 ho2.2
    refine a_aald (y := 65 + l2) (pc := 154) dX3_copyFrom_154 (by decide) s0_64 ho2.1 ho2.2 (by omega) ?_
    refine a_iconst (pc := 155) dX3_copyFrom_155 (by decide) ?_
    refine a_bipush (pc := 156) dX3_copyFrom_156 (by decide) (by decide +kernel) ?_
    refine a_copy (pc := 158) dX3_copyFrom_158 al_RX3 w_an w_as w_ay hr3.1 hr4.1 hr3.2 hr4.2 (by decide) (by decide) (by decide) (by decide) (by decide) (Nat.le_of_ble_eq_true rfl) ?_
    have ho5 := h.1
    replace h := h.2
    refine a_iinc (ls1 := [(2, 1), (2, 77), (0, l2 + 1)]) (pc := 161) dX3_copyFrom_161 rfl (by decide) (hp1 (t := 2) rfl (by decide)) ho5 rfl ?_
    refine a_goto (tgt := 136) (pc := 164) dX3_copyFrom_164 (by decide) ?_
    exact h
theorem E_Net_copyFrom_2 {M : Mem} {Q : Int → Mem → Prop} (h : AW mX3_copyFrom 0 [(2, 1), (2, 77), (9, 0)] M Q) : Calls mX3_copyFrom [(2, 1), (2, 77)] S0 M Q := calls_of (by decide) (by decide) (Nat.le_of_ble_eq_true rfl) rfl h
set_option maxRecDepth 100000 in
set_option maxHeartbeats 4000000 in
theorem B_Net_copyFrom_3_0 {M : Mem} {Q : Int → Mem → Prop} (h : AW mX3_copyFrom 70 [(2, 153), (2, 1), (0, 0)] (cpyM (cpyM (cpyM (cpyM (up2 M 153 0 (M 1 0)) 2 154 8) 3 155 8) 4 156 8) 63 215 48) Q) : AW mX3_copyFrom 0 [(2, 153), (2, 1), (9, 0)] M Q := by
  refine a_aload_n (pc := 0) dX3_copyFrom_0 (by decide) rfl ?_
  refine a_aload_n (pc := 1) dX3_copyFrom_1 (by decide) rfl ?_
  refine a_getI (y := 0) (pc := 2) dX3_copyFrom_2 fl_RX3_9 (by decide) s0_1 (Or.inl rfl) rfl ?_
  refine a_putI (y := 0) (pc := 5) dX3_copyFrom_5 fl_RX3_9 (by decide) s0_153 rfl rfl (tyX3_ok 0 (by decide)) rfl ?_
  refine a_aload_n (pc := 8) dX3_copyFrom_8 (by decide) rfl ?_
  refine a_getR (y := 2) (pc := 9) dX3_copyFrom_9 fl_RX3_15 (by decide) s0_1 rfl rfl ?_
  refine a_iconst (pc := 12) dX3_copyFrom_12 (by decide) ?_
  refine a_aload_n (pc := 13) dX3_copyFrom_13 (by decide) rfl ?_
  refine a_getR (y := 154) (pc := 14) dX3_copyFrom_14 fl_RX3_15 (by decide) s0_153 rfl rfl ?_
  refine a_iconst (pc := 17) dX3_copyFrom_17 (by decide) ?_
  refine a_bipush (pc := 18) dX3_copyFrom_18 (by decide) (by decide +kernel) ?_
  refine a_copy (pc := 20) dX3_copyFrom_20 al_RX3 w_an w_as w_ay (by decide) (by decide) s0_2 s0_154 (by decide) (by decide) (by decide) (by decide) (by decide) (Nat.le_of_ble_eq_true rfl) ?_
  refine a_aload_n (pc := 23) dX3_copyFrom_23 (by decide) rfl ?_
  refine a_getR (y := 3) (pc := 24) dX3_copyFrom_24 fl_RX3_19 (by decide) s0_1 rfl rfl ?_
  refine a_iconst (pc := 27) dX3_copyFrom_27 (by decide) ?_
  refine a_aload_n (pc := 28) dX3_copyFrom_28 (by decide) rfl ?_
  refine a_getR (y := 155) (pc := 29) dX3_copyFrom_29 fl_RX3_19 (by decide) s0_153 rfl rfl ?_
  refine a_iconst (pc := 32) dX3_copyFrom_32 (by decide) ?_
  refine a_bipush (pc := 33) dX3_copyFrom_33 (by decide) (by decide +kernel) ?_
  refine a_copy (pc := 35) dX3_copyFrom_35 al_RX3 w_an w_as w_ay (by decide) (by decide) s0_3 s0_155 (by decide) (by decide) (by decide) (by decide) (by decide) (Nat.le_of_ble_eq_true rfl) ?_
  refine a_aload_n (pc := 38) dX3_copyFrom_38 (by decide) rfl ?_
  refine a_getR (y := 4) (pc := 39) dX3_copyFrom_39 fl_RX3_22 (by decide) s0_1 rfl rfl ?_
  refine a_iconst (pc := 42) dX3_copyFrom_42 (by decide) ?_
  refine a_aload_n (pc := 43) dX3_copyFrom_43 (by decide) rfl ?_
  refine a_getR (y := 156) (pc := 44) dX3_copyFrom_44 fl_RX3_22 (by decide) s0_153 rfl rfl ?_
  refine a_iconst (pc := 47) dX3_copyFrom_47 (by decide) ?_
  refine a_bipush (pc := 48) dX3_copyFrom_48 (by decide) (by decide +kernel) ?_
  refine a_copy (pc := 50) dX3_copyFrom_50 al_RX3 w_an w_as w_ay (by decide) (by decide) s0_4 s0_156 (by decide) (by decide) (by decide) (by decide) (by decide) (Nat.le_of_ble_eq_true rfl) ?_
  refine a_aload_n (pc := 53) dX3_copyFrom_53 (by decide) rfl ?_
  refine a_getR (y := 63) (pc := 54) dX3_copyFrom_54 fl_RX3_33 (by decide) s0_1 rfl rfl ?_
  refine a_iconst (pc := 57) dX3_copyFrom_57 (by decide) ?_
  refine a_aload_n (pc := 58) dX3_copyFrom_58 (by decide) rfl ?_
  refine a_getR (y := 215) (pc := 59) dX3_copyFrom_59 fl_RX3_33 (by decide) s0_153 rfl rfl ?_
  refine a_iconst (pc := 62) dX3_copyFrom_62 (by decide) ?_
  refine a_bipush (pc := 63) dX3_copyFrom_63 (by decide) (by decide +kernel) ?_
  refine a_copy (pc := 65) dX3_copyFrom_65 al_RX3 w_an w_as w_ay (by decide) (by decide) s0_63 s0_215 (by decide) (by decide) (by decide) (by decide) (by decide) (Nat.le_of_ble_eq_true rfl) ?_
  refine a_iconst (pc := 68) dX3_copyFrom_68 (by decide) ?_
  refine a_istore_n (ls1 := [(2, 153), (2, 1), (0, 0)]) (pc := 69) dX3_copyFrom_69 (by decide) (hp1 (t := 2) rfl (by decide)) rfl ?_
  exact h
set_option maxRecDepth 100000 in
set_option maxHeartbeats 4000000 in
theorem B_Net_copyFrom_3_70 {l2 : Int} {M : Mem} {Q : Int → Mem → Prop} (h : ((8 ≤ l2 → AW mX3_copyFrom 103 [(2, 153), (2, 1), (0, 0)] M Q) ∧ (¬ (8 ≤ l2) → ((0 : Int) ≤ l2 ∧ l2 < 8) ∧ (-2147483648 ≤ l2 + 1 ∧ l2 + 1 ≤ 2147483647) ∧ AW mX3_copyFrom 70 [(2, 153), (2, 1), (0, l2 + 1)] (cpyM M (6 + l2) (158 + l2) 6) Q))) : AW mX3_copyFrom 70 [(2, 153), (2, 1), (0, l2)] M Q := by
  refine a_iload_n (pc := 70) dX3_copyFrom_70 rfl ?_
  refine a_bipush (pc := 71) dX3_copyFrom_71 (by decide) (by decide +kernel) ?_
  refine a_icmp_ge (tgt := 101) (pc := 73) dX3_copyFrom_73 (by decide) (fun hc1 => ?_) (fun hc1 => ?_)
  · replace h := h.1 hc1
    refine a_iconst (pc := 101) dX3_copyFrom_101 (by decide) ?_
    refine a_istore_n (ls1 := [(2, 153), (2, 1), (0, 0)]) (pc := 102) dX3_copyFrom_102 (by decide) (hp1 (t := 2) rfl (by decide)) rfl ?_
    exact h
  · replace h := h.2 hc1
    refine a_aload_n (pc := 76) dX3_copyFrom_76 (by decide) rfl ?_
    refine a_getR (y := 5) (pc := 77) dX3_copyFrom_77 fl_RX3_27 (by decide) s0_1 rfl rfl ?_
    refine a_iload_n (pc := 80) dX3_copyFrom_80 rfl ?_
    have ho2 := h.1
    replace h := h.2
    have hr3 := rw_5 l2 ho2.1 ho2.2
    refine a_aald (y := 6 + l2) (pc := 81) dX3_copyFrom_81 (by decide) s0_5 ho2.1 ho2.2 (by omega) ?_
    refine a_iconst (pc := 82) dX3_copyFrom_82 (by decide) ?_
    refine a_aload_n (pc := 83) dX3_copyFrom_83 (by decide) rfl ?_
    refine a_getR (y := 157) (pc := 84) dX3_copyFrom_84 fl_RX3_27 (by decide) s0_153 rfl rfl ?_
    refine a_iload_n (pc := 87) dX3_copyFrom_87 rfl ?_
    have hr4 := rw_157 l2 ho2.1 ho2.2
    refine a_aald (y := 158 + l2) (pc := 88) dX3_copyFrom_88 (by decide) s0_157 ho2.1 ho2.2 (by omega) ?_
    refine a_iconst (pc := 89) dX3_copyFrom_89 (by decide) ?_
    refine a_bipush (pc := 90) dX3_copyFrom_90 (by decide) (by decide +kernel) ?_
    refine a_copy (pc := 92) dX3_copyFrom_92 al_RX3 w_an w_as w_ay hr3.1 hr4.1 hr3.2 hr4.2 (by decide) (by decide) (by decide) (by decide) (by decide) (Nat.le_of_ble_eq_true rfl) ?_
    have ho5 := h.1
    replace h := h.2
    refine a_iinc (ls1 := [(2, 153), (2, 1), (0, l2 + 1)]) (pc := 95) dX3_copyFrom_95 rfl (by decide) (hp1 (t := 2) rfl (by decide)) ho5 rfl ?_
    refine a_goto (tgt := 70) (pc := 98) dX3_copyFrom_98 (by decide) ?_
    exact h
set_option maxRecDepth 100000 in
set_option maxHeartbeats 4000000 in
theorem B_Net_copyFrom_3_103 {l2 : Int} {M : Mem} {Q : Int → Mem → Prop} (h : ((48 ≤ l2 → AW mX3_copyFrom 136 [(2, 153), (2, 1), (0, 0)] M Q) ∧ (¬ (48 ≤ l2) → ((0 : Int) ≤ l2 ∧ l2 < 48) ∧ (-2147483648 ≤ l2 + 1 ∧ l2 + 1 ≤ 2147483647) ∧ AW mX3_copyFrom 103 [(2, 153), (2, 1), (0, l2 + 1)] (cpyM M (15 + l2) (167 + l2) 6) Q))) : AW mX3_copyFrom 103 [(2, 153), (2, 1), (0, l2)] M Q := by
  refine a_iload_n (pc := 103) dX3_copyFrom_103 rfl ?_
  refine a_bipush (pc := 104) dX3_copyFrom_104 (by decide) (by decide +kernel) ?_
  refine a_icmp_ge (tgt := 134) (pc := 106) dX3_copyFrom_106 (by decide) (fun hc1 => ?_) (fun hc1 => ?_)
  · replace h := h.1 hc1
    refine a_iconst (pc := 134) dX3_copyFrom_134 (by decide) ?_
    refine a_istore_n (ls1 := [(2, 153), (2, 1), (0, 0)]) (pc := 135) dX3_copyFrom_135 (by decide) (hp1 (t := 2) rfl (by decide)) rfl ?_
    exact h
  · replace h := h.2 hc1
    refine a_aload_n (pc := 109) dX3_copyFrom_109 (by decide) rfl ?_
    refine a_getR (y := 14) (pc := 110) dX3_copyFrom_110 fl_RX3_30 (by decide) s0_1 rfl rfl ?_
    refine a_iload_n (pc := 113) dX3_copyFrom_113 rfl ?_
    have ho2 := h.1
    replace h := h.2
    have hr3 := rw_14 l2 ho2.1 ho2.2
    refine a_aald (y := 15 + l2) (pc := 114) dX3_copyFrom_114 (by decide) s0_14 ho2.1 ho2.2 (by omega) ?_
    refine a_iconst (pc := 115) dX3_copyFrom_115 (by decide) ?_
    refine a_aload_n (pc := 116) dX3_copyFrom_116 (by decide) rfl ?_
    refine a_getR (y := 166) (pc := 117) dX3_copyFrom_117 fl_RX3_30 (by decide) s0_153 rfl rfl ?_
    refine a_iload_n (pc := 120) dX3_copyFrom_120 rfl ?_
    have hr4 := rw_166 l2 ho2.1 ho2.2
    refine a_aald (y := 167 + l2) (pc := 121) dX3_copyFrom_121 (by decide) s0_166 ho2.1 ho2.2 (by omega) ?_
    refine a_iconst (pc := 122) dX3_copyFrom_122 (by decide) ?_
    refine a_bipush (pc := 123) dX3_copyFrom_123 (by decide) (by decide +kernel) ?_
    refine a_copy (pc := 125) dX3_copyFrom_125 al_RX3 w_an w_as w_ay hr3.1 hr4.1 hr3.2 hr4.2 (by decide) (by decide) (by decide) (by decide) (by decide) (Nat.le_of_ble_eq_true rfl) ?_
    have ho5 := h.1
    replace h := h.2
    refine a_iinc (ls1 := [(2, 153), (2, 1), (0, l2 + 1)]) (pc := 128) dX3_copyFrom_128 rfl (by decide) (hp1 (t := 2) rfl (by decide)) ho5 rfl ?_
    refine a_goto (tgt := 103) (pc := 131) dX3_copyFrom_131 (by decide) ?_
    exact h
set_option maxRecDepth 100000 in
set_option maxHeartbeats 4000000 in
theorem B_Net_copyFrom_3_136 {l2 : Int} {M : Mem} {Q : Int → Mem → Prop} (h : ((12 ≤ l2 → Q 0 M) ∧ (¬ (12 ≤ l2) → ((0 : Int) ≤ l2 ∧ l2 < 12) ∧ (-2147483648 ≤ l2 + 1 ∧ l2 + 1 ≤ 2147483647) ∧ AW mX3_copyFrom 136 [(2, 153), (2, 1), (0, l2 + 1)] (cpyM M (65 + l2) (217 + l2) 12) Q))) : AW mX3_copyFrom 136 [(2, 153), (2, 1), (0, l2)] M Q := by
  refine a_iload_n (pc := 136) dX3_copyFrom_136 rfl ?_
  refine a_bipush (pc := 137) dX3_copyFrom_137 (by decide) (by decide +kernel) ?_
  refine a_icmp_ge (tgt := 167) (pc := 139) dX3_copyFrom_139 (by decide) (fun hc1 => ?_) (fun hc1 => ?_)
  · replace h := h.1 hc1
    exact a_vret (pc := 167) dX3_copyFrom_167 rfl rfl (Nat.le_of_ble_eq_true rfl) ⟨rfl, h⟩
  · replace h := h.2 hc1
    refine a_aload_n (pc := 142) dX3_copyFrom_142 (by decide) rfl ?_
    refine a_getR (y := 64) (pc := 143) dX3_copyFrom_143 fl_RX3_36 (by decide) s0_1 rfl rfl ?_
    refine a_iload_n (pc := 146) dX3_copyFrom_146 rfl ?_
    have ho2 := h.1
    replace h := h.2
    have hr3 := rw_64 l2 ho2.1 ho2.2
    refine a_aald (y := 65 + l2) (pc := 147) dX3_copyFrom_147 (by decide) s0_64 ho2.1 ho2.2 (by omega) ?_
    refine a_iconst (pc := 148) dX3_copyFrom_148 (by decide) ?_
    refine a_aload_n (pc := 149) dX3_copyFrom_149 (by decide) rfl ?_
    refine a_getR (y := 216) (pc := 150) dX3_copyFrom_150 fl_RX3_36 (by decide) s0_153 rfl rfl ?_
    refine a_iload_n (pc := 153) dX3_copyFrom_153 rfl ?_
    have hr4 := rw_216 l2 ho2.1 ho2.2
    refine a_aald (y := 217 + l2) (pc := 154) dX3_copyFrom_154 (by decide) s0_216 ho2.1 ho2.2 (by omega) ?_
    refine a_iconst (pc := 155) dX3_copyFrom_155 (by decide) ?_
    refine a_bipush (pc := 156) dX3_copyFrom_156 (by decide) (by decide +kernel) ?_
    refine a_copy (pc := 158) dX3_copyFrom_158 al_RX3 w_an w_as w_ay hr3.1 hr4.1 hr3.2 hr4.2 (by decide) (by decide) (by decide) (by decide) (by decide) (Nat.le_of_ble_eq_true rfl) ?_
    have ho5 := h.1
    replace h := h.2
    refine a_iinc (ls1 := [(2, 153), (2, 1), (0, l2 + 1)]) (pc := 161) dX3_copyFrom_161 rfl (by decide) (hp1 (t := 2) rfl (by decide)) ho5 rfl ?_
    refine a_goto (tgt := 136) (pc := 164) dX3_copyFrom_164 (by decide) ?_
    exact h
theorem E_Net_copyFrom_3 {M : Mem} {Q : Int → Mem → Prop} (h : AW mX3_copyFrom 0 [(2, 153), (2, 1), (9, 0)] M Q) : Calls mX3_copyFrom [(2, 153), (2, 1)] S0 M Q := calls_of (by decide) (by decide) (Nat.le_of_ble_eq_true rfl) rfl h
set_option maxRecDepth 100000 in
set_option maxHeartbeats 4000000 in
theorem B_Net_copyFrom_4_0 {M : Mem} {Q : Int → Mem → Prop} (h : AW mX3_copyFrom 70 [(2, 77), (2, 1), (0, 0)] (cpyM (cpyM (cpyM (cpyM (up2 M 77 0 (M 1 0)) 2 78 8) 3 79 8) 4 80 8) 63 139 48) Q) : AW mX3_copyFrom 0 [(2, 77), (2, 1), (9, 0)] M Q := by
  refine a_aload_n (pc := 0) dX3_copyFrom_0 (by decide) rfl ?_
  refine a_aload_n (pc := 1) dX3_copyFrom_1 (by decide) rfl ?_
  refine a_getI (y := 0) (pc := 2) dX3_copyFrom_2 fl_RX3_9 (by decide) s0_1 (Or.inl rfl) rfl ?_
  refine a_putI (y := 0) (pc := 5) dX3_copyFrom_5 fl_RX3_9 (by decide) s0_77 rfl rfl (tyX3_ok 0 (by decide)) rfl ?_
  refine a_aload_n (pc := 8) dX3_copyFrom_8 (by decide) rfl ?_
  refine a_getR (y := 2) (pc := 9) dX3_copyFrom_9 fl_RX3_15 (by decide) s0_1 rfl rfl ?_
  refine a_iconst (pc := 12) dX3_copyFrom_12 (by decide) ?_
  refine a_aload_n (pc := 13) dX3_copyFrom_13 (by decide) rfl ?_
  refine a_getR (y := 78) (pc := 14) dX3_copyFrom_14 fl_RX3_15 (by decide) s0_77 rfl rfl ?_
  refine a_iconst (pc := 17) dX3_copyFrom_17 (by decide) ?_
  refine a_bipush (pc := 18) dX3_copyFrom_18 (by decide) (by decide +kernel) ?_
  refine a_copy (pc := 20) dX3_copyFrom_20 al_RX3 w_an w_as w_ay (by decide) (by decide) s0_2 s0_78 (by decide) (by decide) (by decide) (by decide) (by decide) (Nat.le_of_ble_eq_true rfl) ?_
  refine a_aload_n (pc := 23) dX3_copyFrom_23 (by decide) rfl ?_
  refine a_getR (y := 3) (pc := 24) dX3_copyFrom_24 fl_RX3_19 (by decide) s0_1 rfl rfl ?_
  refine a_iconst (pc := 27) dX3_copyFrom_27 (by decide) ?_
  refine a_aload_n (pc := 28) dX3_copyFrom_28 (by decide) rfl ?_
  refine a_getR (y := 79) (pc := 29) dX3_copyFrom_29 fl_RX3_19 (by decide) s0_77 rfl rfl ?_
  refine a_iconst (pc := 32) dX3_copyFrom_32 (by decide) ?_
  refine a_bipush (pc := 33) dX3_copyFrom_33 (by decide) (by decide +kernel) ?_
  refine a_copy (pc := 35) dX3_copyFrom_35 al_RX3 w_an w_as w_ay (by decide) (by decide) s0_3 s0_79 (by decide) (by decide) (by decide) (by decide) (by decide) (Nat.le_of_ble_eq_true rfl) ?_
  refine a_aload_n (pc := 38) dX3_copyFrom_38 (by decide) rfl ?_
  refine a_getR (y := 4) (pc := 39) dX3_copyFrom_39 fl_RX3_22 (by decide) s0_1 rfl rfl ?_
  refine a_iconst (pc := 42) dX3_copyFrom_42 (by decide) ?_
  refine a_aload_n (pc := 43) dX3_copyFrom_43 (by decide) rfl ?_
  refine a_getR (y := 80) (pc := 44) dX3_copyFrom_44 fl_RX3_22 (by decide) s0_77 rfl rfl ?_
  refine a_iconst (pc := 47) dX3_copyFrom_47 (by decide) ?_
  refine a_bipush (pc := 48) dX3_copyFrom_48 (by decide) (by decide +kernel) ?_
  refine a_copy (pc := 50) dX3_copyFrom_50 al_RX3 w_an w_as w_ay (by decide) (by decide) s0_4 s0_80 (by decide) (by decide) (by decide) (by decide) (by decide) (Nat.le_of_ble_eq_true rfl) ?_
  refine a_aload_n (pc := 53) dX3_copyFrom_53 (by decide) rfl ?_
  refine a_getR (y := 63) (pc := 54) dX3_copyFrom_54 fl_RX3_33 (by decide) s0_1 rfl rfl ?_
  refine a_iconst (pc := 57) dX3_copyFrom_57 (by decide) ?_
  refine a_aload_n (pc := 58) dX3_copyFrom_58 (by decide) rfl ?_
  refine a_getR (y := 139) (pc := 59) dX3_copyFrom_59 fl_RX3_33 (by decide) s0_77 rfl rfl ?_
  refine a_iconst (pc := 62) dX3_copyFrom_62 (by decide) ?_
  refine a_bipush (pc := 63) dX3_copyFrom_63 (by decide) (by decide +kernel) ?_
  refine a_copy (pc := 65) dX3_copyFrom_65 al_RX3 w_an w_as w_ay (by decide) (by decide) s0_63 s0_139 (by decide) (by decide) (by decide) (by decide) (by decide) (Nat.le_of_ble_eq_true rfl) ?_
  refine a_iconst (pc := 68) dX3_copyFrom_68 (by decide) ?_
  refine a_istore_n (ls1 := [(2, 77), (2, 1), (0, 0)]) (pc := 69) dX3_copyFrom_69 (by decide) (hp1 (t := 2) rfl (by decide)) rfl ?_
  exact h
set_option maxRecDepth 100000 in
set_option maxHeartbeats 4000000 in
theorem B_Net_copyFrom_4_70 {l2 : Int} {M : Mem} {Q : Int → Mem → Prop} (h : ((8 ≤ l2 → AW mX3_copyFrom 103 [(2, 77), (2, 1), (0, 0)] M Q) ∧ (¬ (8 ≤ l2) → ((0 : Int) ≤ l2 ∧ l2 < 8) ∧ (-2147483648 ≤ l2 + 1 ∧ l2 + 1 ≤ 2147483647) ∧ AW mX3_copyFrom 70 [(2, 77), (2, 1), (0, l2 + 1)] (cpyM M (6 + l2) (82 + l2) 6) Q))) : AW mX3_copyFrom 70 [(2, 77), (2, 1), (0, l2)] M Q := by
  refine a_iload_n (pc := 70) dX3_copyFrom_70 rfl ?_
  refine a_bipush (pc := 71) dX3_copyFrom_71 (by decide) (by decide +kernel) ?_
  refine a_icmp_ge (tgt := 101) (pc := 73) dX3_copyFrom_73 (by decide) (fun hc1 => ?_) (fun hc1 => ?_)
  · replace h := h.1 hc1
    refine a_iconst (pc := 101) dX3_copyFrom_101 (by decide) ?_
    refine a_istore_n (ls1 := [(2, 77), (2, 1), (0, 0)]) (pc := 102) dX3_copyFrom_102 (by decide) (hp1 (t := 2) rfl (by decide)) rfl ?_
    exact h
  · replace h := h.2 hc1
    refine a_aload_n (pc := 76) dX3_copyFrom_76 (by decide) rfl ?_
    refine a_getR (y := 5) (pc := 77) dX3_copyFrom_77 fl_RX3_27 (by decide) s0_1 rfl rfl ?_
    refine a_iload_n (pc := 80) dX3_copyFrom_80 rfl ?_
    have ho2 := h.1
    replace h := h.2
    have hr3 := rw_5 l2 ho2.1 ho2.2
    refine a_aald (y := 6 + l2) (pc := 81) dX3_copyFrom_81 (by decide) s0_5 ho2.1 ho2.2 (by omega) ?_
    refine a_iconst (pc := 82) dX3_copyFrom_82 (by decide) ?_
    refine a_aload_n (pc := 83) dX3_copyFrom_83 (by decide) rfl ?_
    refine a_getR (y := 81) (pc := 84) dX3_copyFrom_84 fl_RX3_27 (by decide) s0_77 rfl rfl ?_
    refine a_iload_n (pc := 87) dX3_copyFrom_87 rfl ?_
    have hr4 := rw_81 l2 ho2.1 ho2.2
    refine a_aald (y := 82 + l2) (pc := 88) dX3_copyFrom_88 (by decide) s0_81 ho2.1 ho2.2 (by omega) ?_
    refine a_iconst (pc := 89) dX3_copyFrom_89 (by decide) ?_
    refine a_bipush (pc := 90) dX3_copyFrom_90 (by decide) (by decide +kernel) ?_
    refine a_copy (pc := 92) dX3_copyFrom_92 al_RX3 w_an w_as w_ay hr3.1 hr4.1 hr3.2 hr4.2 (by decide) (by decide) (by decide) (by decide) (by decide) (Nat.le_of_ble_eq_true rfl) ?_
    have ho5 := h.1
    replace h := h.2
    refine a_iinc (ls1 := [(2, 77), (2, 1), (0, l2 + 1)]) (pc := 95) dX3_copyFrom_95 rfl (by decide) (hp1 (t := 2) rfl (by decide)) ho5 rfl ?_
    refine a_goto (tgt := 70) (pc := 98) dX3_copyFrom_98 (by decide) ?_
    exact h
set_option maxRecDepth 100000 in
set_option maxHeartbeats 4000000 in
theorem B_Net_copyFrom_4_103 {l2 : Int} {M : Mem} {Q : Int → Mem → Prop} (h : ((48 ≤ l2 → AW mX3_copyFrom 136 [(2, 77), (2, 1), (0, 0)] M Q) ∧ (¬ (48 ≤ l2) → ((0 : Int) ≤ l2 ∧ l2 < 48) ∧ (-2147483648 ≤ l2 + 1 ∧ l2 + 1 ≤ 2147483647) ∧ AW mX3_copyFrom 103 [(2, 77), (2, 1), (0, l2 + 1)] (cpyM M (15 + l2) (91 + l2) 6) Q))) : AW mX3_copyFrom 103 [(2, 77), (2, 1), (0, l2)] M Q := by
  refine a_iload_n (pc := 103) dX3_copyFrom_103 rfl ?_
  refine a_bipush (pc := 104) dX3_copyFrom_104 (by decide) (by decide +kernel) ?_
  refine a_icmp_ge (tgt := 134) (pc := 106) dX3_copyFrom_106 (by decide) (fun hc1 => ?_) (fun hc1 => ?_)
  · replace h := h.1 hc1
    refine a_iconst (pc := 134) dX3_copyFrom_134 (by decide) ?_
    refine a_istore_n (ls1 := [(2, 77), (2, 1), (0, 0)]) (pc := 135) dX3_copyFrom_135 (by decide) (hp1 (t := 2) rfl (by decide)) rfl ?_
    exact h
  · replace h := h.2 hc1
    refine a_aload_n (pc := 109) dX3_copyFrom_109 (by decide) rfl ?_
    refine a_getR (y := 14) (pc := 110) dX3_copyFrom_110 fl_RX3_30 (by decide) s0_1 rfl rfl ?_
    refine a_iload_n (pc := 113) dX3_copyFrom_113 rfl ?_
    have ho2 := h.1
    replace h := h.2
    have hr3 := rw_14 l2 ho2.1 ho2.2
    refine a_aald (y := 15 + l2) (pc := 114) dX3_copyFrom_114 (by decide) s0_14 ho2.1 ho2.2 (by omega) ?_
    refine a_iconst (pc := 115) dX3_copyFrom_115 (by decide) ?_
    refine a_aload_n (pc := 116) dX3_copyFrom_116 (by decide) rfl ?_
    refine a_getR (y := 90) (pc := 117) dX3_copyFrom_117 fl_RX3_30 (by decide) s0_77 rfl rfl ?_
    refine a_iload_n (pc := 120) dX3_copyFrom_120 rfl ?_
    have hr4 := rw_90 l2 ho2.1 ho2.2
    refine a_aald (y := 91 + l2) (pc := 121) dX3_copyFrom_121 (by decide) s0_90 ho2.1 ho2.2 (by omega) ?_
    refine a_iconst (pc := 122) dX3_copyFrom_122 (by decide) ?_
    refine a_bipush (pc := 123) dX3_copyFrom_123 (by decide) (by decide +kernel) ?_
    refine a_copy (pc := 125) dX3_copyFrom_125 al_RX3 w_an w_as w_ay hr3.1 hr4.1 hr3.2 hr4.2 (by decide) (by decide) (by decide) (by decide) (by decide) (Nat.le_of_ble_eq_true rfl) ?_
    have ho5 := h.1
    replace h := h.2
    refine a_iinc (ls1 := [(2, 77), (2, 1), (0, l2 + 1)]) (pc := 128) dX3_copyFrom_128 rfl (by decide) (hp1 (t := 2) rfl (by decide)) ho5 rfl ?_
    refine a_goto (tgt := 103) (pc := 131) dX3_copyFrom_131 (by decide) ?_
    exact h
set_option maxRecDepth 100000 in
set_option maxHeartbeats 4000000 in
theorem B_Net_copyFrom_4_136 {l2 : Int} {M : Mem} {Q : Int → Mem → Prop} (h : ((12 ≤ l2 → Q 0 M) ∧ (¬ (12 ≤ l2) → ((0 : Int) ≤ l2 ∧ l2 < 12) ∧ (-2147483648 ≤ l2 + 1 ∧ l2 + 1 ≤ 2147483647) ∧ AW mX3_copyFrom 136 [(2, 77), (2, 1), (0, l2 + 1)] (cpyM M (65 + l2) (141 + l2) 12) Q))) : AW mX3_copyFrom 136 [(2, 77), (2, 1), (0, l2)] M Q := by
  refine a_iload_n (pc := 136) dX3_copyFrom_136 rfl ?_
  refine a_bipush (pc := 137) dX3_copyFrom_137 (by decide) (by decide +kernel) ?_
  refine a_icmp_ge (tgt := 167) (pc := 139) dX3_copyFrom_139 (by decide) (fun hc1 => ?_) (fun hc1 => ?_)
  · replace h := h.1 hc1
    exact a_vret (pc := 167) dX3_copyFrom_167 rfl rfl (Nat.le_of_ble_eq_true rfl) ⟨rfl, h⟩
  · replace h := h.2 hc1
    refine a_aload_n (pc := 142) dX3_copyFrom_142 (by decide) rfl ?_
    refine a_getR (y := 64) (pc := 143) dX3_copyFrom_143 fl_RX3_36 (by decide) s0_1 rfl rfl ?_
    refine a_iload_n (pc := 146) dX3_copyFrom_146 rfl ?_
    have ho2 := h.1
    replace h := h.2
    have hr3 := rw_64 l2 ho2.1 ho2.2
    refine a_aald (y := 65 + l2) (pc := 147) dX3_copyFrom_147 (by decide) s0_64 ho2.1 ho2.2 (by omega) ?_
    refine a_iconst (pc := 148) dX3_copyFrom_148 (by decide) ?_
    refine a_aload_n (pc := 149) dX3_copyFrom_149 (by decide) rfl ?_
    refine a_getR (y := 140) (pc := 150) dX3_copyFrom_150 fl_RX3_36 (by decide) s0_77 rfl rfl ?_
    refine a_iload_n (pc := 153) dX3_copyFrom_153 rfl ?_
    have hr4 := rw_140 l2 ho2.1 ho2.2
    refine a_aald (y := 141 + l2) (pc := 154) dX3_copyFrom_154 (by decide) s0_140 ho2.1 ho2.2 (by omega) ?_
    refine a_iconst (pc := 155) dX3_copyFrom_155 (by decide) ?_
    refine a_bipush (pc := 156) dX3_copyFrom_156 (by decide) (by decide +kernel) ?_
    refine a_copy (pc := 158) dX3_copyFrom_158 al_RX3 w_an w_as w_ay hr3.1 hr4.1 hr3.2 hr4.2 (by decide) (by decide) (by decide) (by decide) (by decide) (Nat.le_of_ble_eq_true rfl) ?_
    have ho5 := h.1
    replace h := h.2
    refine a_iinc (ls1 := [(2, 77), (2, 1), (0, l2 + 1)]) (pc := 161) dX3_copyFrom_161 rfl (by decide) (hp1 (t := 2) rfl (by decide)) ho5 rfl ?_
    refine a_goto (tgt := 136) (pc := 164) dX3_copyFrom_164 (by decide) ?_
    exact h
theorem E_Net_copyFrom_4 {M : Mem} {Q : Int → Mem → Prop} (h : AW mX3_copyFrom 0 [(2, 77), (2, 1), (9, 0)] M Q) : Calls mX3_copyFrom [(2, 77), (2, 1)] S0 M Q := calls_of (by decide) (by decide) (Nat.le_of_ble_eq_true rfl) rfl h
set_option maxRecDepth 100000 in
set_option maxHeartbeats 4000000 in
theorem B_Net_countPaths_0 {M : Mem} {Q : Int → Mem → Prop} (h : AW mX3_countPaths 4 [(2, 1), (0, 0), (0, 0), (9, 0)] M Q) : AW mX3_countPaths 0 [(2, 1), (9, 0), (9, 0), (9, 0)] M Q := by
  refine a_iconst (pc := 0) dX3_countPaths_0 (by decide) ?_
  refine a_istore_n (ls1 := [(2, 1), (0, 0), (9, 0), (9, 0)]) (pc := 1) dX3_countPaths_1 (by decide) (hp1 (t := 2) rfl (by decide)) rfl ?_
  refine a_iconst (pc := 2) dX3_countPaths_2 (by decide) ?_
  refine a_istore_n (ls1 := [(2, 1), (0, 0), (0, 0), (9, 0)]) (pc := 3) dX3_countPaths_3 (by decide) (hp1 (t := 0) rfl (by decide)) rfl ?_
  exact h
set_option maxRecDepth 100000 in
set_option maxHeartbeats 4000000 in
theorem B_Net_countPaths_4 {l1 l2 : Int} {M : Mem} {Q : Int → Mem → Prop} (h : ((12 ≤ l2 → Q l1 M) ∧ (¬ (12 ≤ l2) → (-2147483648 ≤ l2 + 1 ∧ l2 + 1 ≤ 2147483647) ∧ AW mX3_countPaths 14 [(2, 1), (0, l1), (0, l2), (0, l2 + 1)] M Q))) : AW mX3_countPaths 4 [(2, 1), (0, l1), (0, l2), (9, 0)] M Q := by
  refine a_iload_n (pc := 4) dX3_countPaths_4 rfl ?_
  refine a_bipush (pc := 5) dX3_countPaths_5 (by decide) (by decide +kernel) ?_
  refine a_icmp_ge (tgt := 46) (pc := 7) dX3_countPaths_7 (by decide) (fun hc1 => ?_) (fun hc1 => ?_)
  · replace h := h.1 hc1
    refine a_iload_n (pc := 46) dX3_countPaths_46 rfl ?_
    exact a_ireti (pc := 47) dX3_countPaths_47 rfl rfl (Nat.le_of_ble_eq_true rfl) ⟨rfl, h⟩
  · replace h := h.2 hc1
    refine a_iload_n (pc := 10) dX3_countPaths_10 rfl ?_
    refine a_iconst (pc := 11) dX3_countPaths_11 (by decide) ?_
    have ho2 := h.1
    replace h := h.2
    refine a_iadd (pc := 12) dX3_countPaths_12 ho2 ?_
    refine a_istore_n (ls1 := [(2, 1), (0, l1), (0, l2), (0, l2 + 1)]) (pc := 13) dX3_countPaths_13 (by decide) (hp1 (t := 0) rfl (by decide)) rfl ?_
    exact h
set_option maxRecDepth 100000 in
set_option maxHeartbeats 4000000 in
theorem B_Net_countPaths_14 {l1 l2 l3 : Int} {M : Mem} {Q : Int → Mem → Prop} (h : ((12 ≤ l3 → (-2147483648 ≤ l2 + 1 ∧ l2 + 1 ≤ 2147483647) ∧ AW mX3_countPaths 4 [(2, 1), (0, l1), (0, l2 + 1), (9, 0)] M Q) ∧ (¬ (12 ≤ l3) → ((0 : Int) ≤ l2 ∧ l2 < 12) ∧ ((0 : Int) ≤ l3 ∧ l3 < 12) ∧ (((M (65 + l2) l3) = 0 → (-2147483648 ≤ l3 + 1 ∧ l3 + 1 ≤ 2147483647) ∧ AW mX3_countPaths 14 [(2, 1), (0, l1), (0, l2), (0, l3 + 1)] M Q) ∧ (¬ (M (65 + l2) l3) = 0 → (-2147483648 ≤ l1 + 1 ∧ l1 + 1 ≤ 2147483647) ∧ (-2147483648 ≤ l3 + 1 ∧ l3 + 1 ≤ 2147483647) ∧ AW mX3_countPaths 14 [(2, 1), (0, l1 + 1), (0, l2), (0, l3 + 1)] M Q))))) : AW mX3_countPaths 14 [(2, 1), (0, l1), (0, l2), (0, l3)] M Q := by
  refine a_iload_n (pc := 14) dX3_countPaths_14 rfl ?_
  refine a_bipush (pc := 15) dX3_countPaths_15 (by decide) (by decide +kernel) ?_
  refine a_icmp_ge (tgt := 40) (pc := 17) dX3_countPaths_17 (by decide) (fun hc1 => ?_) (fun hc1 => ?_)
  · replace h := h.1 hc1
    have ho2 := h.1
    replace h := h.2
    refine a_iinc (ls1 := [(2, 1), (0, l1), (0, l2 + 1), (0, l3)]) (pc := 40) dX3_countPaths_40 rfl (by decide) (hp1 (t := 0) rfl (by decide)) ho2 rfl ?_
    refine a_goto (tgt := 4) (pc := 43) dX3_countPaths_43 (by decide) ?_
    exact a_msk [true, true, true, false] rfl h
  · replace h := h.2 hc1
    refine a_aload_n (pc := 20) dX3_countPaths_20 (by decide) rfl ?_
    refine a_getR (y := 64) (pc := 21) dX3_countPaths_21 fl_RX3_36 (by decide) s0_1 rfl rfl ?_
    refine a_iload_n (pc := 24) dX3_countPaths_24 rfl ?_
    have ho3 := h.1
    replace h := h.2
    have hr4 := rw_64 l2 ho3.1 ho3.2
    refine a_aald (y := 65 + l2) (pc := 25) dX3_countPaths_25 (by decide) s0_64 ho3.1 ho3.2 (by omega) ?_
    refine a_iload_n (pc := 26) dX3_countPaths_26 rfl ?_
    have ho5 := h.1
    replace h := h.2
    refine a_iald (pc := 27) dX3_countPaths_27 hr4.1 hr4.2 ho5.1 ho5.2 ?_
    refine a_if_eq (tgt := 34) (pc := 28) dX3_countPaths_28 (by decide) (fun hc6 => ?_) (fun hc6 => ?_)
    · replace h := h.1 hc6
      have ho7 := h.1
      replace h := h.2
      refine a_iinc (ls1 := [(2, 1), (0, l1), (0, l2), (0, l3 + 1)]) (pc := 34) dX3_countPaths_34 rfl (by decide) (hp1 (t := 0) rfl (by decide)) ho7 rfl ?_
      refine a_goto (tgt := 14) (pc := 37) dX3_countPaths_37 (by decide) ?_
      exact h
    · replace h := h.2 hc6
      have ho8 := h.1
      replace h := h.2
      refine a_iinc (ls1 := [(2, 1), (0, l1 + 1), (0, l2), (0, l3)]) (pc := 31) dX3_countPaths_31 rfl (by decide) (hp1 (t := 2) rfl (by decide)) ho8 rfl ?_
      have ho9 := h.1
      replace h := h.2
      refine a_iinc (ls1 := [(2, 1), (0, l1 + 1), (0, l2), (0, l3 + 1)]) (pc := 34) dX3_countPaths_34 rfl (by decide) (hp1 (t := 0) rfl (by decide)) ho9 rfl ?_
      refine a_goto (tgt := 14) (pc := 37) dX3_countPaths_37 (by decide) ?_
      exact h
theorem E_Net_countPaths {M : Mem} {Q : Int → Mem → Prop} (h : AW mX3_countPaths 0 [(2, 1), (9, 0), (9, 0), (9, 0)] M Q) : Calls mX3_countPaths [(2, 1)] S0 M Q := calls_of (by decide) (by decide) (Nat.le_of_ble_eq_true rfl) rfl h
set_option maxRecDepth 100000 in
set_option maxHeartbeats 4000000 in
theorem B_Net_countTrips_0 {M : Mem} {Q : Int → Mem → Prop} (h : AW mX3_countTrips 4 [(2, 1), (0, 0), (0, 0)] M Q) : AW mX3_countTrips 0 [(2, 1), (9, 0), (9, 0)] M Q := by
  refine a_iconst (pc := 0) dX3_countTrips_0 (by decide) ?_
  refine a_istore_n (ls1 := [(2, 1), (0, 0), (9, 0)]) (pc := 1) dX3_countTrips_1 (by decide) (hp1 (t := 2) rfl (by decide)) rfl ?_
  refine a_iconst (pc := 2) dX3_countTrips_2 (by decide) ?_
  refine a_istore_n (ls1 := [(2, 1), (0, 0), (0, 0)]) (pc := 3) dX3_countTrips_3 (by decide) (hp1 (t := 0) rfl (by decide)) rfl ?_
  exact h
set_option maxRecDepth 100000 in
set_option maxHeartbeats 4000000 in
theorem B_Net_countTrips_4 {l1 l2 : Int} {M : Mem} {Q : Int → Mem → Prop} (h : (((M 1 0) ≤ l2 → Q l1 M) ∧ (¬ ((M 1 0) ≤ l2) → ((0 : Int) ≤ l2 ∧ l2 < 8) ∧ (-2147483648 ≤ l1 + (M 4 l2) ∧ l1 + (M 4 l2) ≤ 2147483647) ∧ (-2147483648 ≤ l2 + 1 ∧ l2 + 1 ≤ 2147483647) ∧ AW mX3_countTrips 4 [(2, 1), (0, l1 + (M 4 l2)), (0, l2 + 1)] M Q))) : AW mX3_countTrips 4 [(2, 1), (0, l1), (0, l2)] M Q := by
  refine a_iload_n (pc := 4) dX3_countTrips_4 rfl ?_
  refine a_aload_n (pc := 5) dX3_countTrips_5 (by decide) rfl ?_
  refine a_getI (y := 0) (pc := 6) dX3_countTrips_6 fl_RX3_9 (by decide) s0_1 (Or.inl rfl) rfl ?_
  refine a_icmp_ge (tgt := 27) (pc := 9) dX3_countTrips_9 (by decide) (fun hc1 => ?_) (fun hc1 => ?_)
  · replace h := h.1 hc1
    refine a_iload_n (pc := 27) dX3_countTrips_27 rfl ?_
    exact a_ireti (pc := 28) dX3_countTrips_28 rfl rfl (Nat.le_of_ble_eq_true rfl) ⟨rfl, h⟩
  · replace h := h.2 hc1
    refine a_iload_n (pc := 12) dX3_countTrips_12 rfl ?_
    refine a_aload_n (pc := 13) dX3_countTrips_13 (by decide) rfl ?_
    refine a_getR (y := 4) (pc := 14) dX3_countTrips_14 fl_RX3_22 (by decide) s0_1 rfl rfl ?_
    refine a_iload_n (pc := 17) dX3_countTrips_17 rfl ?_
    have ho2 := h.1
    replace h := h.2
    refine a_iald (pc := 18) dX3_countTrips_18 (by decide) s0_4 ho2.1 ho2.2 ?_
    have ho3 := h.1
    replace h := h.2
    refine a_iadd (pc := 19) dX3_countTrips_19 ho3 ?_
    refine a_istore_n (ls1 := [(2, 1), (0, l1 + (M 4 l2)), (0, l2)]) (pc := 20) dX3_countTrips_20 (by decide) (hp1 (t := 2) rfl (by decide)) rfl ?_
    have ho4 := h.1
    replace h := h.2
    refine a_iinc (ls1 := [(2, 1), (0, l1 + (M 4 l2)), (0, l2 + 1)]) (pc := 21) dX3_countTrips_21 rfl (by decide) (hp1 (t := 0) rfl (by decide)) ho4 rfl ?_
    refine a_goto (tgt := 4) (pc := 24) dX3_countTrips_24 (by decide) ?_
    exact h
theorem E_Net_countTrips {M : Mem} {Q : Int → Mem → Prop} (h : AW mX3_countTrips 0 [(2, 1), (9, 0), (9, 0)] M Q) : Calls mX3_countTrips [(2, 1)] S0 M Q := calls_of (by decide) (by decide) (Nat.le_of_ble_eq_true rfl) rfl h
set_option maxRecDepth 100000 in
set_option maxHeartbeats 4000000 in
theorem B_Net_placeOf_0 {l1 l2 : Int} {M : Mem} {Q : Int → Mem → Prop} (h : AW mX3_placeOf 2 [(2, 1), (0, l1), (0, l2), (0, 0)] M Q) : AW mX3_placeOf 0 [(2, 1), (0, l1), (0, l2), (9, 0)] M Q := by
  refine a_iconst (pc := 0) dX3_placeOf_0 (by decide) ?_
  refine a_istore_n (ls1 := [(2, 1), (0, l1), (0, l2), (0, 0)]) (pc := 1) dX3_placeOf_1 (by decide) (hp1 (t := 0) rfl (by decide)) rfl ?_
  exact h
set_option maxRecDepth 100000 in
set_option maxHeartbeats 4000000 in
theorem B_Net_placeOf_2 {l1 l2 l3 : Int} {M : Mem} {Q : Int → Mem → Prop} (h : ((0 : Int) ≤ l1 ∧ l1 < 8) ∧ (((M 3 l1) ≤ l3 → Q (-1) M) ∧ (¬ ((M 3 l1) ≤ l3) → ((0 : Int) ≤ l3 ∧ l3 < 6) ∧ ((¬ (M (6 + l1) l3) = l2 → (-2147483648 ≤ l3 + 1 ∧ l3 + 1 ≤ 2147483647) ∧ AW mX3_placeOf 2 [(2, 1), (0, l1), (0, l2), (0, l3 + 1)] M Q) ∧ ((M (6 + l1) l3) = l2 → Q l3 M))))) : AW mX3_placeOf 2 [(2, 1), (0, l1), (0, l2), (0, l3)] M Q := by
  refine a_iload_n (pc := 2) dX3_placeOf_2 rfl ?_
  refine a_aload_n (pc := 3) dX3_placeOf_3 (by decide) rfl ?_
  refine a_getR (y := 3) (pc := 4) dX3_placeOf_4 fl_RX3_19 (by decide) s0_1 rfl rfl ?_
  refine a_iload_n (pc := 7) dX3_placeOf_7 rfl ?_
  have ho1 := h.1
  replace h := h.2
  refine a_iald (pc := 8) dX3_placeOf_8 (by decide) s0_3 ho1.1 ho1.2 ?_
  refine a_icmp_ge (tgt := 32) (pc := 9) dX3_placeOf_9 (by decide) (fun hc2 => ?_) (fun hc2 => ?_)
  · replace h := h.1 hc2
    refine a_iconst (pc := 32) dX3_placeOf_32 (by decide) ?_
    exact a_ireti (pc := 33) dX3_placeOf_33 rfl rfl (Nat.le_of_ble_eq_true rfl) ⟨rfl, h⟩
  · replace h := h.2 hc2
    refine a_aload_n (pc := 12) dX3_placeOf_12 (by decide) rfl ?_
    refine a_getR (y := 5) (pc := 13) dX3_placeOf_13 fl_RX3_27 (by decide) s0_1 rfl rfl ?_
    refine a_iload_n (pc := 16) dX3_placeOf_16 rfl ?_
    have hr3 := rw_5 l1 ho1.1 ho1.2
    refine a_aald (y := 6 + l1) (pc := 17) dX3_placeOf_17 (by decide) s0_5 ho1.1 ho1.2 (by omega) ?_
    refine a_iload_n (pc := 18) dX3_placeOf_18 rfl ?_
    have ho4 := h.1
    replace h := h.2
    refine a_iald (pc := 19) dX3_placeOf_19 hr3.1 hr3.2 ho4.1 ho4.2 ?_
    refine a_iload_n (pc := 20) dX3_placeOf_20 rfl ?_
    refine a_icmp_ne (tgt := 26) (pc := 21) dX3_placeOf_21 (by decide) (fun hc5 => ?_) (fun hc5 => ?_)
    · replace h := h.1 hc5
      have ho6 := h.1
      replace h := h.2
      refine a_iinc (ls1 := [(2, 1), (0, l1), (0, l2), (0, l3 + 1)]) (pc := 26) dX3_placeOf_26 rfl (by decide) (hp1 (t := 0) rfl (by decide)) ho6 rfl ?_
      refine a_goto (tgt := 2) (pc := 29) dX3_placeOf_29 (by decide) ?_
      exact h
    · replace h := h.2 hc5
      refine a_iload_n (pc := 24) dX3_placeOf_24 rfl ?_
      exact a_ireti (pc := 25) dX3_placeOf_25 rfl rfl (Nat.le_of_ble_eq_true rfl) ⟨rfl, h⟩
theorem E_Net_placeOf {l1 l2 : Int} {M : Mem} {Q : Int → Mem → Prop} (h : AW mX3_placeOf 0 [(2, 1), (0, l1), (0, l2), (9, 0)] M Q) : Calls mX3_placeOf [(2, 1), (0, l1), (0, l2)] S0 M Q := calls_of (by decide) (by decide) (Nat.le_of_ble_eq_true rfl) rfl h
set_option maxRecDepth 100000 in
set_option maxHeartbeats 4000000 in
theorem B_Route_sumFares_0 {M : Mem} {Q : Int → Mem → Prop} (h : AW mX5_sumFares 4 [(2, 246), (0, 0), (0, 0)] M Q) : AW mX5_sumFares 0 [(2, 246), (9, 0), (9, 0)] M Q := by
  refine a_iconst (pc := 0) dX5_sumFares_0 (by decide) ?_
  refine a_istore_n (ls1 := [(2, 246), (0, 0), (9, 0)]) (pc := 1) dX5_sumFares_1 (by decide) (hp1 (t := 2) rfl (by decide)) rfl ?_
  refine a_iconst (pc := 2) dX5_sumFares_2 (by decide) ?_
  refine a_istore_n (ls1 := [(2, 246), (0, 0), (0, 0)]) (pc := 3) dX5_sumFares_3 (by decide) (hp1 (t := 0) rfl (by decide)) rfl ?_
  exact h
set_option maxRecDepth 100000 in
set_option maxHeartbeats 4000000 in
theorem B_Route_sumFares_4 {l1 l2 : Int} {M : Mem} {Q : Int → Mem → Prop} (h : (((M 246 3) ≤ l2 → Q l1 M) ∧ (¬ ((M 246 3) ≤ l2) → ((0 : Int) ≤ l2 ∧ l2 < 13) ∧ (-2147483648 ≤ l1 + (M (248 + l2) 6) ∧ l1 + (M (248 + l2) 6) ≤ 2147483647) ∧ (-2147483648 ≤ l2 + 1 ∧ l2 + 1 ≤ 2147483647) ∧ AW mX5_sumFares 4 [(2, 246), (0, l1 + (M (248 + l2) 6)), (0, l2 + 1)] M Q))) : AW mX5_sumFares 4 [(2, 246), (0, l1), (0, l2)] M Q := by
  refine a_iload_n (pc := 4) dX5_sumFares_4 rfl ?_
  refine a_aload_n (pc := 5) dX5_sumFares_5 (by decide) rfl ?_
  refine a_getI (y := 3) (pc := 6) dX5_sumFares_6 fl_RX5_24 (by decide) s0_246 (Or.inl rfl) rfl ?_
  refine a_icmp_ge (tgt := 30) (pc := 9) dX5_sumFares_9 (by decide) (fun hc1 => ?_) (fun hc1 => ?_)
  · replace h := h.1 hc1
    refine a_iload_n (pc := 30) dX5_sumFares_30 rfl ?_
    exact a_ireti (pc := 31) dX5_sumFares_31 rfl rfl (Nat.le_of_ble_eq_true rfl) ⟨rfl, h⟩
  · replace h := h.2 hc1
    refine a_iload_n (pc := 12) dX5_sumFares_12 rfl ?_
    refine a_aload_n (pc := 13) dX5_sumFares_13 (by decide) rfl ?_
    refine a_getR (y := 247) (pc := 14) dX5_sumFares_14 fl_RX5_21 (by decide) s0_246 rfl rfl ?_
    refine a_iload_n (pc := 17) dX5_sumFares_17 rfl ?_
    have ho2 := h.1
    replace h := h.2
    have hr3 := rw_247 l2 ho2.1 ho2.2
    refine a_aald (y := 248 + l2) (pc := 18) dX5_sumFares_18 (by decide) s0_247 ho2.1 ho2.2 (by omega) ?_
    refine a_bipush (pc := 19) dX5_sumFares_19 (by decide) (by decide +kernel) ?_
    refine a_iald (pc := 21) dX5_sumFares_21 hr3.1 hr3.2 (by decide) (by decide) ?_
    have ho4 := h.1
    replace h := h.2
    refine a_iadd (pc := 22) dX5_sumFares_22 ho4 ?_
    refine a_istore_n (ls1 := [(2, 246), (0, l1 + (M (248 + l2) 6)), (0, l2)]) (pc := 23) dX5_sumFares_23 (by decide) (hp1 (t := 2) rfl (by decide)) rfl ?_
    have ho5 := h.1
    replace h := h.2
    refine a_iinc (ls1 := [(2, 246), (0, l1 + (M (248 + l2) 6)), (0, l2 + 1)]) (pc := 24) dX5_sumFares_24 rfl (by decide) (hp1 (t := 0) rfl (by decide)) ho5 rfl ?_
    refine a_goto (tgt := 4) (pc := 27) dX5_sumFares_27 (by decide) ?_
    exact h
theorem E_Route_sumFares {M : Mem} {Q : Int → Mem → Prop} (h : AW mX5_sumFares 0 [(2, 246), (9, 0), (9, 0)] M Q) : Calls mX5_sumFares [(2, 246)] S0 M Q := calls_of (by decide) (by decide) (Nat.le_of_ble_eq_true rfl) rfl h
set_option maxRecDepth 100000 in
set_option maxHeartbeats 4000000 in
theorem B_Route_sumMoving_0 {M : Mem} {Q : Int → Mem → Prop} (h : AW mX5_sumMoving 4 [(2, 246), (0, 0), (0, 0)] M Q) : AW mX5_sumMoving 0 [(2, 246), (9, 0), (9, 0)] M Q := by
  refine a_iconst (pc := 0) dX5_sumMoving_0 (by decide) ?_
  refine a_istore_n (ls1 := [(2, 246), (0, 0), (9, 0)]) (pc := 1) dX5_sumMoving_1 (by decide) (hp1 (t := 2) rfl (by decide)) rfl ?_
  refine a_iconst (pc := 2) dX5_sumMoving_2 (by decide) ?_
  refine a_istore_n (ls1 := [(2, 246), (0, 0), (0, 0)]) (pc := 3) dX5_sumMoving_3 (by decide) (hp1 (t := 0) rfl (by decide)) rfl ?_
  exact h
set_option maxRecDepth 100000 in
set_option maxHeartbeats 4000000 in
theorem B_Route_sumMoving_4 {l1 l2 : Int} {M : Mem} {Q : Int → Mem → Prop} (h : (((M 246 3) ≤ l2 → Q l1 M) ∧ (¬ ((M 246 3) ≤ l2) → ((0 : Int) ≤ l2 ∧ l2 < 13) ∧ (-2147483648 ≤ (M (248 + l2) 5) - (M (248 + l2) 4) ∧ (M (248 + l2) 5) - (M (248 + l2) 4) ≤ 2147483647) ∧ (-2147483648 ≤ l1 + ((M (248 + l2) 5) - (M (248 + l2) 4)) ∧ l1 + ((M (248 + l2) 5) - (M (248 + l2) 4)) ≤ 2147483647) ∧ (-2147483648 ≤ l2 + 1 ∧ l2 + 1 ≤ 2147483647) ∧ AW mX5_sumMoving 4 [(2, 246), (0, l1 + ((M (248 + l2) 5) - (M (248 + l2) 4))), (0, l2 + 1)] M Q))) : AW mX5_sumMoving 4 [(2, 246), (0, l1), (0, l2)] M Q := by
  refine a_iload_n (pc := 4) dX5_sumMoving_4 rfl ?_
  refine a_aload_n (pc := 5) dX5_sumMoving_5 (by decide) rfl ?_
  refine a_getI (y := 3) (pc := 6) dX5_sumMoving_6 fl_RX5_24 (by decide) s0_246 (Or.inl rfl) rfl ?_
  refine a_icmp_ge (tgt := 38) (pc := 9) dX5_sumMoving_9 (by decide) (fun hc1 => ?_) (fun hc1 => ?_)
  · replace h := h.1 hc1
    refine a_iload_n (pc := 38) dX5_sumMoving_38 rfl ?_
    exact a_ireti (pc := 39) dX5_sumMoving_39 rfl rfl (Nat.le_of_ble_eq_true rfl) ⟨rfl, h⟩
  · replace h := h.2 hc1
    refine a_iload_n (pc := 12) dX5_sumMoving_12 rfl ?_
    refine a_aload_n (pc := 13) dX5_sumMoving_13 (by decide) rfl ?_
    refine a_getR (y := 247) (pc := 14) dX5_sumMoving_14 fl_RX5_21 (by decide) s0_246 rfl rfl ?_
    refine a_iload_n (pc := 17) dX5_sumMoving_17 rfl ?_
    have ho2 := h.1
    replace h := h.2
    have hr3 := rw_247 l2 ho2.1 ho2.2
    refine a_aald (y := 248 + l2) (pc := 18) dX5_sumMoving_18 (by decide) s0_247 ho2.1 ho2.2 (by omega) ?_
    refine a_iconst (pc := 19) dX5_sumMoving_19 (by decide) ?_
    refine a_iald (pc := 20) dX5_sumMoving_20 hr3.1 hr3.2 (by decide) (by decide) ?_
    refine a_aload_n (pc := 21) dX5_sumMoving_21 (by decide) rfl ?_
    refine a_getR (y := 247) (pc := 22) dX5_sumMoving_22 fl_RX5_21 (by decide) s0_246 rfl rfl ?_
    refine a_iload_n (pc := 25) dX5_sumMoving_25 rfl ?_
    have hr4 := rw_247 l2 ho2.1 ho2.2
    refine a_aald (y := 248 + l2) (pc := 26) dX5_sumMoving_26 (by decide) s0_247 ho2.1 ho2.2 (by omega) ?_
    refine a_iconst (pc := 27) dX5_sumMoving_27 (by decide) ?_
    refine a_iald (pc := 28) dX5_sumMoving_28 hr4.1 hr4.2 (by decide) (by decide) ?_
    have ho5 := h.1
    replace h := h.2
    refine a_isub (pc := 29) dX5_sumMoving_29 ho5 ?_
    have ho6 := h.1
    replace h := h.2
    refine a_iadd (pc := 30) dX5_sumMoving_30 ho6 ?_
    refine a_istore_n (ls1 := [(2, 246), (0, l1 + ((M (248 + l2) 5) - (M (248 + l2) 4))), (0, l2)]) (pc := 31) dX5_sumMoving_31 (by decide) (hp1 (t := 2) rfl (by decide)) rfl ?_
    have ho7 := h.1
    replace h := h.2
    refine a_iinc (ls1 := [(2, 246), (0, l1 + ((M (248 + l2) 5) - (M (248 + l2) 4))), (0, l2 + 1)]) (pc := 32) dX5_sumMoving_32 rfl (by decide) (hp1 (t := 0) rfl (by decide)) ho7 rfl ?_
    refine a_goto (tgt := 4) (pc := 35) dX5_sumMoving_35 (by decide) ?_
    exact h
theorem E_Route_sumMoving {M : Mem} {Q : Int → Mem → Prop} (h : AW mX5_sumMoving 0 [(2, 246), (9, 0), (9, 0)] M Q) : Calls mX5_sumMoving [(2, 246)] S0 M Q := calls_of (by decide) (by decide) (Nat.le_of_ble_eq_true rfl) rfl h
set_option maxRecDepth 100000 in
set_option maxHeartbeats 4000000 in
theorem B_Text_put_1_0 {l1 : Int} {M : Mem} {Q : Int → Mem → Prop} (h : (((M 263 1) < 80 → ((0 : Int) ≤ M 263 1 ∧ M 263 1 < 80) ∧ (-2147483648 ≤ (M 263 1) + 1 ∧ (M 263 1) + 1 ≤ 2147483647) ∧ Q 0 (up2 (up2 M 264 (M 263 1) l1) 263 1 ((M 263 1) + 1))) ∧ (¬ ((M 263 1) < 80) → Q 0 M))) : AW mX7_put 0 [(2, 263), (0, l1)] M Q := by
  refine a_aload_n (pc := 0) dX7_put_0 (by decide) rfl ?_
  refine a_getI (y := 1) (pc := 1) dX7_put_1 fl_RX7_19 (by decide) s0_263 (Or.inl rfl) rfl ?_
  refine a_aload_n (pc := 4) dX7_put_4 (by decide) rfl ?_
  refine a_getR (y := 264) (pc := 5) dX7_put_5 fl_RX7_13 (by decide) s0_263 rfl rfl ?_
  refine a_alen (pc := 8) dX7_put_8 (by decide) s0_264 (by decide) ?_
  refine a_eq (y := 80) rfl ?_
  refine a_icmp_lt (tgt := 13) (pc := 9) dX7_put_9 (by decide) (fun hc1 => ?_) (fun hc1 => ?_)
  · replace h := h.1 hc1
    refine a_aload_n (pc := 13) dX7_put_13 (by decide) rfl ?_
    refine a_getR (y := 264) (pc := 14) dX7_put_14 fl_RX7_13 (by decide) s0_263 rfl rfl ?_
    refine a_aload_n (pc := 17) dX7_put_17 (by decide) rfl ?_
    refine a_getI (y := 1) (pc := 18) dX7_put_18 fl_RX7_19 (by decide) s0_263 (Or.inl rfl) rfl ?_
    refine a_iload_n (pc := 21) dX7_put_21 rfl ?_
    have ho2 := h.1
    replace h := h.2
    refine a_iast (pc := 22) dX7_put_22 (by decide) s0_264 ho2.1 ho2.2 ?_
    refine a_aload_n (pc := 23) dX7_put_23 (by decide) rfl ?_
    refine a_dup (pc := 24) dX7_put_24 n21 ?_
    refine a_getI (y := 1) (pc := 25) dX7_put_25 fl_RX7_19 (by decide) s0_263 (Or.inl rfl) rfl ?_
    refine a_eq (y := M 263 1) rfl ?_
    refine a_iconst (pc := 28) dX7_put_28 (by decide) ?_
    have ho3 := h.1
    replace h := h.2
    refine a_iadd (pc := 29) dX7_put_29 ho3 ?_
    refine a_putI (y := 1) (pc := 30) dX7_put_30 fl_RX7_19 (by decide) s0_263 rfl rfl (tyX7_ok 1 (by decide)) rfl ?_
    exact a_vret (pc := 33) dX7_put_33 rfl rfl (Nat.le_of_ble_eq_true rfl) ⟨rfl, h⟩
  · replace h := h.2 hc1
    exact a_vret (pc := 12) dX7_put_12 rfl rfl (Nat.le_of_ble_eq_true rfl) ⟨rfl, h⟩
theorem E_Text_put_1 {l1 : Int} {M : Mem} {Q : Int → Mem → Prop} (h : AW mX7_put 0 [(2, 263), (0, l1)] M Q) : Calls mX7_put [(2, 263), (0, l1)] S0 M Q := calls_of (by decide) (by decide) (Nat.le_of_ble_eq_true rfl) rfl h
set_option maxRecDepth 100000 in
set_option maxHeartbeats 4000000 in
theorem B_Text_put_2_0 {l1 : Int} {M : Mem} {Q : Int → Mem → Prop} (h : (((M 265 1) < 160 → ((0 : Int) ≤ M 265 1 ∧ M 265 1 < 160) ∧ (-2147483648 ≤ (M 265 1) + 1 ∧ (M 265 1) + 1 ≤ 2147483647) ∧ Q 0 (up2 (up2 M 266 (M 265 1) l1) 265 1 ((M 265 1) + 1))) ∧ (¬ ((M 265 1) < 160) → Q 0 M))) : AW mX7_put 0 [(2, 265), (0, l1)] M Q := by
  refine a_aload_n (pc := 0) dX7_put_0 (by decide) rfl ?_
  refine a_getI (y := 1) (pc := 1) dX7_put_1 fl_RX7_19 (by decide) s0_265 (Or.inl rfl) rfl ?_
  refine a_aload_n (pc := 4) dX7_put_4 (by decide) rfl ?_
  refine a_getR (y := 266) (pc := 5) dX7_put_5 fl_RX7_13 (by decide) s0_265 rfl rfl ?_
  refine a_alen (pc := 8) dX7_put_8 (by decide) s0_266 (by decide) ?_
  refine a_eq (y := 160) rfl ?_
  refine a_icmp_lt (tgt := 13) (pc := 9) dX7_put_9 (by decide) (fun hc1 => ?_) (fun hc1 => ?_)
  · replace h := h.1 hc1
    refine a_aload_n (pc := 13) dX7_put_13 (by decide) rfl ?_
    refine a_getR (y := 266) (pc := 14) dX7_put_14 fl_RX7_13 (by decide) s0_265 rfl rfl ?_
    refine a_aload_n (pc := 17) dX7_put_17 (by decide) rfl ?_
    refine a_getI (y := 1) (pc := 18) dX7_put_18 fl_RX7_19 (by decide) s0_265 (Or.inl rfl) rfl ?_
    refine a_iload_n (pc := 21) dX7_put_21 rfl ?_
    have ho2 := h.1
    replace h := h.2
    refine a_iast (pc := 22) dX7_put_22 (by decide) s0_266 ho2.1 ho2.2 ?_
    refine a_aload_n (pc := 23) dX7_put_23 (by decide) rfl ?_
    refine a_dup (pc := 24) dX7_put_24 n21 ?_
    refine a_getI (y := 1) (pc := 25) dX7_put_25 fl_RX7_19 (by decide) s0_265 (Or.inl rfl) rfl ?_
    refine a_eq (y := M 265 1) rfl ?_
    refine a_iconst (pc := 28) dX7_put_28 (by decide) ?_
    have ho3 := h.1
    replace h := h.2
    refine a_iadd (pc := 29) dX7_put_29 ho3 ?_
    refine a_putI (y := 1) (pc := 30) dX7_put_30 fl_RX7_19 (by decide) s0_265 rfl rfl (tyX7_ok 1 (by decide)) rfl ?_
    exact a_vret (pc := 33) dX7_put_33 rfl rfl (Nat.le_of_ble_eq_true rfl) ⟨rfl, h⟩
  · replace h := h.2 hc1
    exact a_vret (pc := 12) dX7_put_12 rfl rfl (Nat.le_of_ble_eq_true rfl) ⟨rfl, h⟩
theorem E_Text_put_2 {l1 : Int} {M : Mem} {Q : Int → Mem → Prop} (h : AW mX7_put 0 [(2, 265), (0, l1)] M Q) : Calls mX7_put [(2, 265), (0, l1)] S0 M Q := calls_of (by decide) (by decide) (Nat.le_of_ble_eq_true rfl) rfl h
set_option maxRecDepth 100000 in
set_option maxHeartbeats 4000000 in
theorem B_Net_putDelay_0 {l1 l2 l3 l4 : Int} {M : Mem} {Q : Int → Mem → Prop} (h : (-2147483648 ≤ l1 * 6 ∧ l1 * 6 ≤ 2147483647) ∧ (-2147483648 ≤ (l1 * 6) + l2 ∧ (l1 * 6) + l2 ≤ 2147483647) ∧ ((0 : Int) ≤ (l1 * 6) + l2 ∧ (l1 * 6) + l2 < 48) ∧ ((0 : Int) ≤ l1 ∧ l1 < 8) ∧ (-2147483648 ≤ (M 3 l1) - 1 ∧ (M 3 l1) - 1 ≤ 2147483647) ∧ ((0 : Int) ≤ (M 3 l1) - 1 ∧ (M 3 l1) - 1 < 6) ∧ (-2147483648 ≤ (M (15 + ((l1 * 6) + l2)) ((M 3 l1) - 1)) + l4 ∧ (M (15 + ((l1 * 6) + l2)) ((M 3 l1) - 1)) + l4 ≤ 2147483647) ∧ ((((M (15 + ((l1 * 6) + l2)) ((M 3 l1) - 1)) + l4) ≤ 9000 → AW mX3_putDelay 41 [(9, 0), (9, 0), (9, 0), (9, 0), (0, l4), (2, 15 + ((l1 * 6) + l2)), (0, M 3 l1), (0, l3)] M Q) ∧ (¬ (((M (15 + ((l1 * 6) + l2)) ((M 3 l1) - 1)) + l4) ≤ 9000) → Q 0 M))) : AW mX3_putDelay 0 [(2, 1), (0, l1), (0, l2), (0, l3), (0, l4), (9, 0), (9, 0), (9, 0)] M Q := by
  refine a_aload_n (pc := 0) dX3_putDelay_0 (by decide) rfl ?_
  refine a_getR (y := 14) (pc := 1) dX3_putDelay_1 fl_RX3_30 (by decide) s0_1 rfl rfl ?_
  refine a_iload_n (pc := 4) dX3_putDelay_4 rfl ?_
  refine a_iload_n (pc := 5) dX3_putDelay_5 rfl ?_
  refine p_inlS (Ex := _) (As := [(0, l1), (0, l2)]) (st := [(2, 14)]) (st1 := fun r => [(0, r), (2, 14)])  (pc := 6) dX3_putDelay_6 ml_RX3_49 (by decide) (Nat.le_of_ble_eq_true rfl) rfl (fun _ => rfl) (by decide) (by decide) (Nat.le_of_ble_eq_true rfl) rfl ?_
  refine a_iload_n (pc := 0) dX3_rowOf_0 rfl ?_
  refine a_bipush (pc := 1) dX3_rowOf_1 (by decide) (by decide +kernel) ?_
  have ho1 := h.1
  replace h := h.2
  refine a_imul (pc := 3) dX3_rowOf_3 ho1 ?_
  refine a_iload_n (pc := 4) dX3_rowOf_4 rfl ?_
  have ho2 := h.1
  replace h := h.2
  refine a_iadd (pc := 5) dX3_rowOf_5 ho2 ?_
  refine a_ireti (pc := 6) dX3_rowOf_6 rfl rfl (Nat.le_of_ble_eq_true rfl) ⟨rfl, ?_⟩
  have ho3 := h.1
  replace h := h.2
  have hr4 := rw_14 ((l1 * 6) + l2) ho3.1 ho3.2
  refine a_aald (y := 15 + ((l1 * 6) + l2)) (pc := 9) dX3_putDelay_9 (by decide) s0_14 ho3.1 ho3.2 (by omega) ?_
  refine a_astore (ls1 := [(2, 1), (0, l1), (0, l2), (0, l3), (0, l4), (2, 15 + ((l1 * 6) + l2)), (9, 0), (9, 0)]) (pc := 10) dX3_putDelay_10 hr4.1 (by decide) (hp1 (t := 0) rfl (by decide)) rfl ?_
  refine a_aload_n (pc := 12) dX3_putDelay_12 (by decide) rfl ?_
  refine a_getR (y := 3) (pc := 13) dX3_putDelay_13 fl_RX3_19 (by decide) s0_1 rfl rfl ?_
  refine a_iload_n (pc := 16) dX3_putDelay_16 rfl ?_
  have ho5 := h.1
  replace h := h.2
  refine a_iald (pc := 17) dX3_putDelay_17 (by decide) s0_3 ho5.1 ho5.2 ?_
  refine a_istore (ls1 := [(2, 1), (0, l1), (0, l2), (0, l3), (0, l4), (2, 15 + ((l1 * 6) + l2)), (0, M 3 l1), (9, 0)]) (pc := 18) dX3_putDelay_18 (by decide) (hp1 (t := 2) rfl (by decide)) rfl ?_
  refine a_aload (pc := 20) dX3_putDelay_20 hr4.1 rfl ?_
  refine a_iload (pc := 22) dX3_putDelay_22 rfl ?_
  refine a_iconst (pc := 24) dX3_putDelay_24 (by decide) ?_
  have ho6 := h.1
  replace h := h.2
  refine a_isub (pc := 25) dX3_putDelay_25 ho6 ?_
  have ho7 := h.1
  replace h := h.2
  refine a_iald (pc := 26) dX3_putDelay_26 hr4.1 hr4.2 ho7.1 ho7.2 ?_
  refine a_iload (pc := 27) dX3_putDelay_27 rfl ?_
  have ho8 := h.1
  replace h := h.2
  refine a_iadd (pc := 29) dX3_putDelay_29 ho8 ?_
  refine a_sipush (pc := 30) dX3_putDelay_30 (by decide) (by decide +kernel) ?_
  refine a_icmp_le (tgt := 38) (pc := 33) dX3_putDelay_33 (by decide) (fun hc9 => ?_) (fun hc9 => ?_)
  · replace h := h.1 hc9
    refine a_iload_n (pc := 38) dX3_putDelay_38 rfl ?_
    refine a_istore (ls1 := [(2, 1), (0, l1), (0, l2), (0, l3), (0, l4), (2, 15 + ((l1 * 6) + l2)), (0, M 3 l1), (0, l3)]) (pc := 39) dX3_putDelay_39 (by decide) (hp1 (t := 0) rfl (by decide)) rfl ?_
    exact a_msk [false, false, false, false, true, true, true, true] rfl h
  · replace h := h.2 hc9
    refine a_iconst (pc := 36) dX3_putDelay_36 (by decide) ?_
    exact a_iretz (pc := 37) dX3_putDelay_37 rfl rfl (Nat.le_of_ble_eq_true rfl) (by decide) ⟨rfl, h⟩
set_option maxRecDepth 100000 in
set_option maxHeartbeats 4000000 in
theorem B_Net_putDelay_41 {l4 l5 l6 l7 : Int} (ha5 : isA l5 6) {M : Mem} {Q : Int → Mem → Prop} (h : ((l6 ≤ l7 → Q 1 M) ∧ (¬ (l6 ≤ l7) → ((0 : Int) ≤ l7 ∧ l7 < 6) ∧ (-2147483648 ≤ (M l5 l7) + l4 ∧ (M l5 l7) + l4 ≤ 2147483647) ∧ (-2147483648 ≤ l7 + 1 ∧ l7 + 1 ≤ 2147483647) ∧ AW mX3_putDelay 41 [(9, 0), (9, 0), (9, 0), (9, 0), (0, l4), (2, l5), (0, l6), (0, l7 + 1)] (up2 M l5 l7 ((M l5 l7) + l4)) Q))) : AW mX3_putDelay 41 [(9, 0), (9, 0), (9, 0), (9, 0), (0, l4), (2, l5), (0, l6), (0, l7)] M Q := by
  refine a_iload (pc := 41) dX3_putDelay_41 rfl ?_
  refine a_iload (pc := 43) dX3_putDelay_43 rfl ?_
  refine a_icmp_ge (tgt := 64) (pc := 45) dX3_putDelay_45 (by decide) (fun hc1 => ?_) (fun hc1 => ?_)
  · replace h := h.1 hc1
    refine a_iconst (pc := 64) dX3_putDelay_64 (by decide) ?_
    exact a_iretz (pc := 65) dX3_putDelay_65 rfl rfl (Nat.le_of_ble_eq_true rfl) (by decide) ⟨rfl, h⟩
  · replace h := h.2 hc1
    refine a_aload (pc := 48) dX3_putDelay_48 ha5.1 rfl ?_
    refine a_iload (pc := 50) dX3_putDelay_50 rfl ?_
    refine a_dup2 (pc := 52) dX3_putDelay_52 n01 n21 ?_
    have ho2 := h.1
    replace h := h.2
    refine a_iald (pc := 53) dX3_putDelay_53 ha5.1 ha5.2 ho2.1 ho2.2 ?_
    refine a_iload (pc := 54) dX3_putDelay_54 rfl ?_
    have ho3 := h.1
    replace h := h.2
    refine a_iadd (pc := 56) dX3_putDelay_56 ho3 ?_
    refine a_iast (pc := 57) dX3_putDelay_57 ha5.1 ha5.2 ho2.1 ho2.2 ?_
    have ho4 := h.1
    replace h := h.2
    refine a_iinc (ls1 := [(9, 0), (9, 0), (9, 0), (9, 0), (0, l4), (2, l5), (0, l6), (0, l7 + 1)]) (pc := 58) dX3_putDelay_58 rfl (by decide) (hp1 (t := 0) rfl (by decide)) ho4 rfl ?_
    refine a_goto (tgt := 41) (pc := 61) dX3_putDelay_61 (by decide) ?_
    exact h
theorem E_Net_putDelay {l1 l2 l3 l4 : Int} {M : Mem} {Q : Int → Mem → Prop} (h : AW mX3_putDelay 0 [(2, 1), (0, l1), (0, l2), (0, l3), (0, l4), (9, 0), (9, 0), (9, 0)] M Q) : Calls mX3_putDelay [(2, 1), (0, l1), (0, l2), (0, l3), (0, l4)] S0 M Q := calls_of (by decide) (by decide) (Nat.le_of_ble_eq_true rfl) rfl h
set_option maxRecDepth 100000 in
set_option maxHeartbeats 4000000 in
theorem B_Reader_takeNumber_0 {l1 l2 l3 : Int} {M : Mem} {Q : Int → Mem → Prop} (h : AW mX4_takeNumber 16 [(2, 267), (0, l1), (0, l2), (0, l3), (0, 0)] (up2 (up2 M 267 5 (M 267 2)) 267 4 0) Q) : AW mX4_takeNumber 0 [(2, 267), (0, l1), (0, l2), (0, l3), (9, 0)] M Q := by
  refine a_aload_n (pc := 0) dX4_takeNumber_0 (by decide) rfl ?_
  refine a_aload_n (pc := 1) dX4_takeNumber_1 (by decide) rfl ?_
  refine a_getI (y := 2) (pc := 2) dX4_takeNumber_2 fl_RX4_19 (by decide) s0_267 (Or.inl rfl) rfl ?_
  refine a_putI (y := 5) (pc := 5) dX4_takeNumber_5 fl_RX4_29 (by decide) s0_267 rfl rfl (tyX4_ok 5 (by decide)) rfl ?_
  refine a_aload_n (pc := 8) dX4_takeNumber_8 (by decide) rfl ?_
  refine a_iconst (pc := 9) dX4_takeNumber_9 (by decide) ?_
  refine a_putI (y := 4) (pc := 10) dX4_takeNumber_10 fl_RX4_26 (by decide) s0_267 rfl rfl (tyX4_ok 4 (by decide)) rfl ?_
  refine a_iconst (pc := 13) dX4_takeNumber_13 (by decide) ?_
  refine a_istore (ls1 := [(2, 267), (0, l1), (0, l2), (0, l3), (0, 0)]) (pc := 14) dX4_takeNumber_14 (by decide) (hp1 (t := 0) rfl (by decide)) rfl ?_
  exact h
set_option maxRecDepth 100000 in
set_option maxHeartbeats 4000000 in
theorem B_Reader_takeNumber_16 {l1 l2 l3 l4 : Int} {M : Mem} {Q : Int → Mem → Prop} (h : ((l1 ≤ l4 → ((¬ (M 267 2) = (M 267 5) → (((M 267 4) < l2 → Q 0 (up2 M 267 6 (M 267 5))) ∧ (¬ ((M 267 4) < l2) → (((M 267 4) ≤ l3 → Q 1 M) ∧ (¬ ((M 267 4) ≤ l3) → Q 0 (up2 M 267 6 (M 267 5))))))) ∧ ((M 267 2) = (M 267 5) → Q 0 (up2 M 267 6 (M 267 2))))) ∧ (¬ (l1 ≤ l4) → (((M 267 2) < 0 → ((¬ (M 267 2) = (M 267 5) → (((M 267 4) < l2 → Q 0 (up2 M 267 6 (M 267 5))) ∧ (¬ ((M 267 4) < l2) → (((M 267 4) ≤ l3 → Q 1 M) ∧ (¬ ((M 267 4) ≤ l3) → Q 0 (up2 M 267 6 (M 267 5))))))) ∧ ((M 267 2) = (M 267 5) → Q 0 (up2 M 267 6 (M 267 2))))) ∧ (¬ ((M 267 2) < 0) → (((M 263 1) ≤ (M 267 2) → ((¬ (M 267 2) = (M 267 5) → (((M 267 4) < l2 → Q 0 (up2 M 267 6 (M 267 5))) ∧ (¬ ((M 267 4) < l2) → (((M 267 4) ≤ l3 → Q 1 M) ∧ (¬ ((M 267 4) ≤ l3) → Q 0 (up2 M 267 6 (M 267 5))))))) ∧ ((M 267 2) = (M 267 5) → Q 0 (up2 M 267 6 (M 267 2))))) ∧ (¬ ((M 263 1) ≤ (M 267 2)) → ((0 : Int) ≤ M 267 2 ∧ M 267 2 < 80) ∧ (((M 264 (M 267 2)) < 48 → ((¬ (M 267 2) = (M 267 5) → (((M 267 4) < l2 → Q 0 (up2 M 267 6 (M 267 5))) ∧ (¬ ((M 267 4) < l2) → (((M 267 4) ≤ l3 → Q 1 M) ∧ (¬ ((M 267 4) ≤ l3) → Q 0 (up2 M 267 6 (M 267 5))))))) ∧ ((M 267 2) = (M 267 5) → Q 0 (up2 M 267 6 (M 267 2))))) ∧ (¬ ((M 264 (M 267 2)) < 48) → ((57 < (M 264 (M 267 2)) → ((¬ (M 267 2) = (M 267 5) → (((M 267 4) < l2 → Q 0 (up2 M 267 6 (M 267 5))) ∧ (¬ ((M 267 4) < l2) → (((M 267 4) ≤ l3 → Q 1 M) ∧ (¬ ((M 267 4) ≤ l3) → Q 0 (up2 M 267 6 (M 267 5))))))) ∧ ((M 267 2) = (M 267 5) → Q 0 (up2 M 267 6 (M 267 2))))) ∧ (¬ (57 < (M 264 (M 267 2))) → (-2147483648 ≤ (M 267 4) * 10 ∧ (M 267 4) * 10 ≤ 2147483647) ∧ (-2147483648 ≤ ((M 267 4) * 10) + (M 264 (M 267 2)) ∧ ((M 267 4) * 10) + (M 264 (M 267 2)) ≤ 2147483647) ∧ (-2147483648 ≤ (((M 267 4) * 10) + (M 264 (M 267 2))) - 48 ∧ (((M 267 4) * 10) + (M 264 (M 267 2))) - 48 ≤ 2147483647) ∧ (-2147483648 ≤ (M 267 2) + 1 ∧ (M 267 2) + 1 ≤ 2147483647) ∧ (-2147483648 ≤ l4 + 1 ∧ l4 + 1 ≤ 2147483647) ∧ AW mX4_takeNumber 16 [(2, 267), (0, l1), (0, l2), (0, l3), (0, l4 + 1)] (up2 (up2 M 267 4 ((((M 267 4) * 10) + (M 264 (M 267 2))) - 48)) 267 2 ((M 267 2) + 1)) Q))))))))))) : AW mX4_takeNumber 16 [(2, 267), (0, l1), (0, l2), (0, l3), (0, l4)] M Q := by
  refine a_iload (pc := 16) dX4_takeNumber_16 rfl ?_
  refine a_iload_n (pc := 18) dX4_takeNumber_18 rfl ?_
  refine a_icmp_ge (tgt := 81) (pc := 19) dX4_takeNumber_19 (by decide) (fun hc1 => ?_) (fun hc1 => ?_)
  · replace h := h.1 hc1
    refine a_aload_n (pc := 81) dX4_takeNumber_81 (by decide) rfl ?_
    refine a_getI (y := 2) (pc := 82) dX4_takeNumber_82 fl_RX4_19 (by decide) s0_267 (Or.inl rfl) rfl ?_
    refine a_aload_n (pc := 85) dX4_takeNumber_85 (by decide) rfl ?_
    refine a_getI (y := 5) (pc := 86) dX4_takeNumber_86 fl_RX4_29 (by decide) s0_267 (Or.inl rfl) rfl ?_
    refine a_icmp_ne (tgt := 101) (pc := 89) dX4_takeNumber_89 (by decide) (fun hc2 => ?_) (fun hc2 => ?_)
    · replace h := h.1 hc2
      refine a_aload_n (pc := 101) dX4_takeNumber_101 (by decide) rfl ?_
      refine a_getI (y := 4) (pc := 102) dX4_takeNumber_102 fl_RX4_26 (by decide) s0_267 (Or.inl rfl) rfl ?_
      refine a_iload_n (pc := 105) dX4_takeNumber_105 rfl ?_
      refine a_icmp_lt (tgt := 117) (pc := 106) dX4_takeNumber_106 (by decide) (fun hc3 => ?_) (fun hc3 => ?_)
      · replace h := h.1 hc3
        refine a_aload_n (pc := 117) dX4_takeNumber_117 (by decide) rfl ?_
        refine a_aload_n (pc := 118) dX4_takeNumber_118 (by decide) rfl ?_
        refine a_getI (y := 5) (pc := 119) dX4_takeNumber_119 fl_RX4_29 (by decide) s0_267 (Or.inl rfl) rfl ?_
        refine p_inlV (Ex := _) (As := [(0, M 267 5)]) (st := []) (st1 := fun r => [(0, r)])  (pc := 122) dX4_takeNumber_122 ml_RX4_52 (by decide) s0_267 rfl (by decide) (Nat.le_of_ble_eq_true rfl) rfl (fun _ => rfl) (by decide) (by decide) (Nat.le_of_ble_eq_true rfl) rfl ?_
        refine a_aload_n (pc := 0) dX4_failAt_0 (by decide) rfl ?_
        refine a_iload_n (pc := 1) dX4_failAt_1 rfl ?_
        refine a_putI (y := 6) (pc := 2) dX4_failAt_2 fl_RX4_32 (by decide) s0_267 rfl rfl (tyX4_ok 6 (by decide)) rfl ?_
        refine a_iconst (pc := 5) dX4_failAt_5 (by decide) ?_
        refine a_iretz (pc := 6) dX4_failAt_6 rfl rfl (Nat.le_of_ble_eq_true rfl) (by decide) ⟨rfl, ?_⟩
        exact a_iretz (pc := 125) dX4_takeNumber_125 rfl rfl (Nat.le_of_ble_eq_true rfl) (by decide) ⟨rfl, h⟩
      · replace h := h.2 hc3
        refine a_aload_n (pc := 109) dX4_takeNumber_109 (by decide) rfl ?_
        refine a_getI (y := 4) (pc := 110) dX4_takeNumber_110 fl_RX4_26 (by decide) s0_267 (Or.inl rfl) rfl ?_
        refine a_iload_n (pc := 113) dX4_takeNumber_113 rfl ?_
        refine a_icmp_le (tgt := 126) (pc := 114) dX4_takeNumber_114 (by decide) (fun hc4 => ?_) (fun hc4 => ?_)
        · replace h := h.1 hc4
          refine a_iconst (pc := 126) dX4_takeNumber_126 (by decide) ?_
          exact a_iretz (pc := 127) dX4_takeNumber_127 rfl rfl (Nat.le_of_ble_eq_true rfl) (by decide) ⟨rfl, h⟩
        · replace h := h.2 hc4
          refine a_aload_n (pc := 117) dX4_takeNumber_117 (by decide) rfl ?_
          refine a_aload_n (pc := 118) dX4_takeNumber_118 (by decide) rfl ?_
          refine a_getI (y := 5) (pc := 119) dX4_takeNumber_119 fl_RX4_29 (by decide) s0_267 (Or.inl rfl) rfl ?_
          refine p_inlV (Ex := _) (As := [(0, M 267 5)]) (st := []) (st1 := fun r => [(0, r)])  (pc := 122) dX4_takeNumber_122 ml_RX4_52 (by decide) s0_267 rfl (by decide) (Nat.le_of_ble_eq_true rfl) rfl (fun _ => rfl) (by decide) (by decide) (Nat.le_of_ble_eq_true rfl) rfl ?_
          refine a_aload_n (pc := 0) dX4_failAt_0 (by decide) rfl ?_
          refine a_iload_n (pc := 1) dX4_failAt_1 rfl ?_
          refine a_putI (y := 6) (pc := 2) dX4_failAt_2 fl_RX4_32 (by decide) s0_267 rfl rfl (tyX4_ok 6 (by decide)) rfl ?_
          refine a_iconst (pc := 5) dX4_failAt_5 (by decide) ?_
          refine a_iretz (pc := 6) dX4_failAt_6 rfl rfl (Nat.le_of_ble_eq_true rfl) (by decide) ⟨rfl, ?_⟩
          exact a_iretz (pc := 125) dX4_takeNumber_125 rfl rfl (Nat.le_of_ble_eq_true rfl) (by decide) ⟨rfl, h⟩
    · replace h := h.2 hc2
      refine a_aload_n (pc := 92) dX4_takeNumber_92 (by decide) rfl ?_
      refine a_aload_n (pc := 93) dX4_takeNumber_93 (by decide) rfl ?_
      refine a_getI (y := 2) (pc := 94) dX4_takeNumber_94 fl_RX4_19 (by decide) s0_267 (Or.inl rfl) rfl ?_
      refine p_inlV (Ex := _) (As := [(0, M 267 2)]) (st := []) (st1 := fun r => [(0, r)])  (pc := 97) dX4_takeNumber_97 ml_RX4_52 (by decide) s0_267 rfl (by decide) (Nat.le_of_ble_eq_true rfl) rfl (fun _ => rfl) (by decide) (by decide) (Nat.le_of_ble_eq_true rfl) rfl ?_
      refine a_aload_n (pc := 0) dX4_failAt_0 (by decide) rfl ?_
      refine a_iload_n (pc := 1) dX4_failAt_1 rfl ?_
      refine a_putI (y := 6) (pc := 2) dX4_failAt_2 fl_RX4_32 (by decide) s0_267 rfl rfl (tyX4_ok 6 (by decide)) rfl ?_
      refine a_iconst (pc := 5) dX4_failAt_5 (by decide) ?_
      refine a_iretz (pc := 6) dX4_failAt_6 rfl rfl (Nat.le_of_ble_eq_true rfl) (by decide) ⟨rfl, ?_⟩
      exact a_iretz (pc := 100) dX4_takeNumber_100 rfl rfl (Nat.le_of_ble_eq_true rfl) (by decide) ⟨rfl, h⟩
  · replace h := h.2 hc1
    refine a_aload_n (pc := 22) dX4_takeNumber_22 (by decide) rfl ?_
    refine a_getR (y := 263) (pc := 23) dX4_takeNumber_23 fl_RX4_15 (by decide) s0_267 rfl rfl ?_
    refine a_aload_n (pc := 26) dX4_takeNumber_26 (by decide) rfl ?_
    refine a_getI (y := 2) (pc := 27) dX4_takeNumber_27 fl_RX4_19 (by decide) s0_267 (Or.inl rfl) rfl ?_
    refine p_inlV (Ex := _) (As := [(0, M 267 2)]) (st := []) (st1 := fun r => [(0, r)])  (pc := 30) dX4_takeNumber_30 ml_RX4_48 (by decide) s0_263 rfl (by decide) (Nat.le_of_ble_eq_true rfl) rfl (fun _ => rfl) (by decide) (by decide) (Nat.le_of_ble_eq_true rfl) rfl ?_
    refine a_iload_n (pc := 0) dX7_byteAt_0 rfl ?_
    refine a_if_lt (tgt := 21) (pc := 1) dX7_byteAt_1 (by decide) (fun hc5 => ?_) (fun hc5 => ?_)
    · replace h := h.1 hc5
      refine a_iconst (pc := 21) dX7_byteAt_21 (by decide) ?_
      refine a_ireti (pc := 22) dX7_byteAt_22 rfl rfl (Nat.le_of_ble_eq_true rfl) ⟨rfl, ?_⟩
      refine p_inlS (Ex := _) (As := [(0, 0)]) (st := []) (st1 := fun r => [(0, r)])  (pc := 33) dX4_takeNumber_33 ml_RX4_55 (by decide) (Nat.le_of_ble_eq_true rfl) rfl (fun _ => rfl) (by decide) (by decide) (Nat.le_of_ble_eq_true rfl) rfl ?_
      refine a_iload_n (pc := 0) dX4_isFigure_0 rfl ?_
      refine a_bipush (pc := 1) dX4_isFigure_1 (by decide) (by decide +kernel) ?_
      refine a_icmp_lt (tgt := 16) (pc := 3) dX4_isFigure_3 (by decide) (fun _ => ?_) (fun hc => absurd (by decide) hc)
      refine a_iconst (pc := 16) dX4_isFigure_16 (by decide) ?_
      refine a_iretz (pc := 17) dX4_isFigure_17 rfl rfl (Nat.le_of_ble_eq_true rfl) (by decide) ⟨rfl, ?_⟩
      refine a_if_eq (tgt := 81) (pc := 36) dX4_takeNumber_36 (by decide) (fun _ => ?_) (fun hc => absurd (by decide) hc)
      refine a_aload_n (pc := 81) dX4_takeNumber_81 (by decide) rfl ?_
      refine a_getI (y := 2) (pc := 82) dX4_takeNumber_82 fl_RX4_19 (by decide) s0_267 (Or.inl rfl) rfl ?_
      refine a_aload_n (pc := 85) dX4_takeNumber_85 (by decide) rfl ?_
      refine a_getI (y := 5) (pc := 86) dX4_takeNumber_86 fl_RX4_29 (by decide) s0_267 (Or.inl rfl) rfl ?_
      refine a_icmp_ne (tgt := 101) (pc := 89) dX4_takeNumber_89 (by decide) (fun hc6 => ?_) (fun hc6 => ?_)
      · replace h := h.1 hc6
        refine a_aload_n (pc := 101) dX4_takeNumber_101 (by decide) rfl ?_
        refine a_getI (y := 4) (pc := 102) dX4_takeNumber_102 fl_RX4_26 (by decide) s0_267 (Or.inl rfl) rfl ?_
        refine a_iload_n (pc := 105) dX4_takeNumber_105 rfl ?_
        refine a_icmp_lt (tgt := 117) (pc := 106) dX4_takeNumber_106 (by decide) (fun hc7 => ?_) (fun hc7 => ?_)
        · replace h := h.1 hc7
          refine a_aload_n (pc := 117) dX4_takeNumber_117 (by decide) rfl ?_
          refine a_aload_n (pc := 118) dX4_takeNumber_118 (by decide) rfl ?_
          refine a_getI (y := 5) (pc := 119) dX4_takeNumber_119 fl_RX4_29 (by decide) s0_267 (Or.inl rfl) rfl ?_
          refine p_inlV (Ex := _) (As := [(0, M 267 5)]) (st := []) (st1 := fun r => [(0, r)])  (pc := 122) dX4_takeNumber_122 ml_RX4_52 (by decide) s0_267 rfl (by decide) (Nat.le_of_ble_eq_true rfl) rfl (fun _ => rfl) (by decide) (by decide) (Nat.le_of_ble_eq_true rfl) rfl ?_
          refine a_aload_n (pc := 0) dX4_failAt_0 (by decide) rfl ?_
          refine a_iload_n (pc := 1) dX4_failAt_1 rfl ?_
          refine a_putI (y := 6) (pc := 2) dX4_failAt_2 fl_RX4_32 (by decide) s0_267 rfl rfl (tyX4_ok 6 (by decide)) rfl ?_
          refine a_iconst (pc := 5) dX4_failAt_5 (by decide) ?_
          refine a_iretz (pc := 6) dX4_failAt_6 rfl rfl (Nat.le_of_ble_eq_true rfl) (by decide) ⟨rfl, ?_⟩
          exact a_iretz (pc := 125) dX4_takeNumber_125 rfl rfl (Nat.le_of_ble_eq_true rfl) (by decide) ⟨rfl, h⟩
        · replace h := h.2 hc7
          refine a_aload_n (pc := 109) dX4_takeNumber_109 (by decide) rfl ?_
          refine a_getI (y := 4) (pc := 110) dX4_takeNumber_110 fl_RX4_26 (by decide) s0_267 (Or.inl rfl) rfl ?_
          refine a_iload_n (pc := 113) dX4_takeNumber_113 rfl ?_
          refine a_icmp_le (tgt := 126) (pc := 114) dX4_takeNumber_114 (by decide) (fun hc8 => ?_) (fun hc8 => ?_)
          · replace h := h.1 hc8
            refine a_iconst (pc := 126) dX4_takeNumber_126 (by decide) ?_
            exact a_iretz (pc := 127) dX4_takeNumber_127 rfl rfl (Nat.le_of_ble_eq_true rfl) (by decide) ⟨rfl, h⟩
          · replace h := h.2 hc8
            refine a_aload_n (pc := 117) dX4_takeNumber_117 (by decide) rfl ?_
            refine a_aload_n (pc := 118) dX4_takeNumber_118 (by decide) rfl ?_
            refine a_getI (y := 5) (pc := 119) dX4_takeNumber_119 fl_RX4_29 (by decide) s0_267 (Or.inl rfl) rfl ?_
            refine p_inlV (Ex := _) (As := [(0, M 267 5)]) (st := []) (st1 := fun r => [(0, r)])  (pc := 122) dX4_takeNumber_122 ml_RX4_52 (by decide) s0_267 rfl (by decide) (Nat.le_of_ble_eq_true rfl) rfl (fun _ => rfl) (by decide) (by decide) (Nat.le_of_ble_eq_true rfl) rfl ?_
            refine a_aload_n (pc := 0) dX4_failAt_0 (by decide) rfl ?_
            refine a_iload_n (pc := 1) dX4_failAt_1 rfl ?_
            refine a_putI (y := 6) (pc := 2) dX4_failAt_2 fl_RX4_32 (by decide) s0_267 rfl rfl (tyX4_ok 6 (by decide)) rfl ?_
            refine a_iconst (pc := 5) dX4_failAt_5 (by decide) ?_
            refine a_iretz (pc := 6) dX4_failAt_6 rfl rfl (Nat.le_of_ble_eq_true rfl) (by decide) ⟨rfl, ?_⟩
            exact a_iretz (pc := 125) dX4_takeNumber_125 rfl rfl (Nat.le_of_ble_eq_true rfl) (by decide) ⟨rfl, h⟩
      · replace h := h.2 hc6
        refine a_aload_n (pc := 92) dX4_takeNumber_92 (by decide) rfl ?_
        refine a_aload_n (pc := 93) dX4_takeNumber_93 (by decide) rfl ?_
        refine a_getI (y := 2) (pc := 94) dX4_takeNumber_94 fl_RX4_19 (by decide) s0_267 (Or.inl rfl) rfl ?_
        refine p_inlV (Ex := _) (As := [(0, M 267 2)]) (st := []) (st1 := fun r => [(0, r)])  (pc := 97) dX4_takeNumber_97 ml_RX4_52 (by decide) s0_267 rfl (by decide) (Nat.le_of_ble_eq_true rfl) rfl (fun _ => rfl) (by decide) (by decide) (Nat.le_of_ble_eq_true rfl) rfl ?_
        refine a_aload_n (pc := 0) dX4_failAt_0 (by decide) rfl ?_
        refine a_iload_n (pc := 1) dX4_failAt_1 rfl ?_
        refine a_putI (y := 6) (pc := 2) dX4_failAt_2 fl_RX4_32 (by decide) s0_267 rfl rfl (tyX4_ok 6 (by decide)) rfl ?_
        refine a_iconst (pc := 5) dX4_failAt_5 (by decide) ?_
        refine a_iretz (pc := 6) dX4_failAt_6 rfl rfl (Nat.le_of_ble_eq_true rfl) (by decide) ⟨rfl, ?_⟩
        exact a_iretz (pc := 100) dX4_takeNumber_100 rfl rfl (Nat.le_of_ble_eq_true rfl) (by decide) ⟨rfl, h⟩
    · replace h := h.2 hc5
      refine a_iload_n (pc := 4) dX7_byteAt_4 rfl ?_
      refine a_aload_n (pc := 5) dX7_byteAt_5 (by decide) rfl ?_
      refine a_getI (y := 1) (pc := 6) dX7_byteAt_6 fl_RX7_19 (by decide) s0_263 (Or.inl rfl) rfl ?_
      refine a_icmp_ge (tgt := 21) (pc := 9) dX7_byteAt_9 (by decide) (fun hc9 => ?_) (fun hc9 => ?_)
      · replace h := h.1 hc9
        refine a_iconst (pc := 21) dX7_byteAt_21 (by decide) ?_
        refine a_ireti (pc := 22) dX7_byteAt_22 rfl rfl (Nat.le_of_ble_eq_true rfl) ⟨rfl, ?_⟩
        refine p_inlS (Ex := _) (As := [(0, 0)]) (st := []) (st1 := fun r => [(0, r)])  (pc := 33) dX4_takeNumber_33 ml_RX4_55 (by decide) (Nat.le_of_ble_eq_true rfl) rfl (fun _ => rfl) (by decide) (by decide) (Nat.le_of_ble_eq_true rfl) rfl ?_
        refine a_iload_n (pc := 0) dX4_isFigure_0 rfl ?_
        refine a_bipush (pc := 1) dX4_isFigure_1 (by decide) (by decide +kernel) ?_
        refine a_icmp_lt (tgt := 16) (pc := 3) dX4_isFigure_3 (by decide) (fun _ => ?_) (fun hc => absurd (by decide) hc)
        refine a_iconst (pc := 16) dX4_isFigure_16 (by decide) ?_
        refine a_iretz (pc := 17) dX4_isFigure_17 rfl rfl (Nat.le_of_ble_eq_true rfl) (by decide) ⟨rfl, ?_⟩
        refine a_if_eq (tgt := 81) (pc := 36) dX4_takeNumber_36 (by decide) (fun _ => ?_) (fun hc => absurd (by decide) hc)
        refine a_aload_n (pc := 81) dX4_takeNumber_81 (by decide) rfl ?_
        refine a_getI (y := 2) (pc := 82) dX4_takeNumber_82 fl_RX4_19 (by decide) s0_267 (Or.inl rfl) rfl ?_
        refine a_aload_n (pc := 85) dX4_takeNumber_85 (by decide) rfl ?_
        refine a_getI (y := 5) (pc := 86) dX4_takeNumber_86 fl_RX4_29 (by decide) s0_267 (Or.inl rfl) rfl ?_
        refine a_icmp_ne (tgt := 101) (pc := 89) dX4_takeNumber_89 (by decide) (fun hc10 => ?_) (fun hc10 => ?_)
        · replace h := h.1 hc10
          refine a_aload_n (pc := 101) dX4_takeNumber_101 (by decide) rfl ?_
          refine a_getI (y := 4) (pc := 102) dX4_takeNumber_102 fl_RX4_26 (by decide) s0_267 (Or.inl rfl) rfl ?_
          refine a_iload_n (pc := 105) dX4_takeNumber_105 rfl ?_
          refine a_icmp_lt (tgt := 117) (pc := 106) dX4_takeNumber_106 (by decide) (fun hc11 => ?_) (fun hc11 => ?_)
          · replace h := h.1 hc11
            refine a_aload_n (pc := 117) dX4_takeNumber_117 (by decide) rfl ?_
            refine a_aload_n (pc := 118) dX4_takeNumber_118 (by decide) rfl ?_
            refine a_getI (y := 5) (pc := 119) dX4_takeNumber_119 fl_RX4_29 (by decide) s0_267 (Or.inl rfl) rfl ?_
            refine p_inlV (Ex := _) (As := [(0, M 267 5)]) (st := []) (st1 := fun r => [(0, r)])  (pc := 122) dX4_takeNumber_122 ml_RX4_52 (by decide) s0_267 rfl (by decide) (Nat.le_of_ble_eq_true rfl) rfl (fun _ => rfl) (by decide) (by decide) (Nat.le_of_ble_eq_true rfl) rfl ?_
            refine a_aload_n (pc := 0) dX4_failAt_0 (by decide) rfl ?_
            refine a_iload_n (pc := 1) dX4_failAt_1 rfl ?_
            refine a_putI (y := 6) (pc := 2) dX4_failAt_2 fl_RX4_32 (by decide) s0_267 rfl rfl (tyX4_ok 6 (by decide)) rfl ?_
            refine a_iconst (pc := 5) dX4_failAt_5 (by decide) ?_
            refine a_iretz (pc := 6) dX4_failAt_6 rfl rfl (Nat.le_of_ble_eq_true rfl) (by decide) ⟨rfl, ?_⟩
            exact a_iretz (pc := 125) dX4_takeNumber_125 rfl rfl (Nat.le_of_ble_eq_true rfl) (by decide) ⟨rfl, h⟩
          · replace h := h.2 hc11
            refine a_aload_n (pc := 109) dX4_takeNumber_109 (by decide) rfl ?_
            refine a_getI (y := 4) (pc := 110) dX4_takeNumber_110 fl_RX4_26 (by decide) s0_267 (Or.inl rfl) rfl ?_
            refine a_iload_n (pc := 113) dX4_takeNumber_113 rfl ?_
            refine a_icmp_le (tgt := 126) (pc := 114) dX4_takeNumber_114 (by decide) (fun hc12 => ?_) (fun hc12 => ?_)
            · replace h := h.1 hc12
              refine a_iconst (pc := 126) dX4_takeNumber_126 (by decide) ?_
              exact a_iretz (pc := 127) dX4_takeNumber_127 rfl rfl (Nat.le_of_ble_eq_true rfl) (by decide) ⟨rfl, h⟩
            · replace h := h.2 hc12
              refine a_aload_n (pc := 117) dX4_takeNumber_117 (by decide) rfl ?_
              refine a_aload_n (pc := 118) dX4_takeNumber_118 (by decide) rfl ?_
              refine a_getI (y := 5) (pc := 119) dX4_takeNumber_119 fl_RX4_29 (by decide) s0_267 (Or.inl rfl) rfl ?_
              refine p_inlV (Ex := _) (As := [(0, M 267 5)]) (st := []) (st1 := fun r => [(0, r)])  (pc := 122) dX4_takeNumber_122 ml_RX4_52 (by decide) s0_267 rfl (by decide) (Nat.le_of_ble_eq_true rfl) rfl (fun _ => rfl) (by decide) (by decide) (Nat.le_of_ble_eq_true rfl) rfl ?_
              refine a_aload_n (pc := 0) dX4_failAt_0 (by decide) rfl ?_
              refine a_iload_n (pc := 1) dX4_failAt_1 rfl ?_
              refine a_putI (y := 6) (pc := 2) dX4_failAt_2 fl_RX4_32 (by decide) s0_267 rfl rfl (tyX4_ok 6 (by decide)) rfl ?_
              refine a_iconst (pc := 5) dX4_failAt_5 (by decide) ?_
              refine a_iretz (pc := 6) dX4_failAt_6 rfl rfl (Nat.le_of_ble_eq_true rfl) (by decide) ⟨rfl, ?_⟩
              exact a_iretz (pc := 125) dX4_takeNumber_125 rfl rfl (Nat.le_of_ble_eq_true rfl) (by decide) ⟨rfl, h⟩
        · replace h := h.2 hc10
          refine a_aload_n (pc := 92) dX4_takeNumber_92 (by decide) rfl ?_
          refine a_aload_n (pc := 93) dX4_takeNumber_93 (by decide) rfl ?_
          refine a_getI (y := 2) (pc := 94) dX4_takeNumber_94 fl_RX4_19 (by decide) s0_267 (Or.inl rfl) rfl ?_
          refine p_inlV (Ex := _) (As := [(0, M 267 2)]) (st := []) (st1 := fun r => [(0, r)])  (pc := 97) dX4_takeNumber_97 ml_RX4_52 (by decide) s0_267 rfl (by decide) (Nat.le_of_ble_eq_true rfl) rfl (fun _ => rfl) (by decide) (by decide) (Nat.le_of_ble_eq_true rfl) rfl ?_
          refine a_aload_n (pc := 0) dX4_failAt_0 (by decide) rfl ?_
          refine a_iload_n (pc := 1) dX4_failAt_1 rfl ?_
          refine a_putI (y := 6) (pc := 2) dX4_failAt_2 fl_RX4_32 (by decide) s0_267 rfl rfl (tyX4_ok 6 (by decide)) rfl ?_
          refine a_iconst (pc := 5) dX4_failAt_5 (by decide) ?_
          refine a_iretz (pc := 6) dX4_failAt_6 rfl rfl (Nat.le_of_ble_eq_true rfl) (by decide) ⟨rfl, ?_⟩
          exact a_iretz (pc := 100) dX4_takeNumber_100 rfl rfl (Nat.le_of_ble_eq_true rfl) (by decide) ⟨rfl, h⟩
      · replace h := h.2 hc9
        refine a_aload_n (pc := 12) dX7_byteAt_12 (by decide) rfl ?_
        refine a_getR (y := 264) (pc := 13) dX7_byteAt_13 fl_RX7_13 (by decide) s0_263 rfl rfl ?_
        refine a_iload_n (pc := 16) dX7_byteAt_16 rfl ?_
        have ho13 := h.1
        replace h := h.2
        refine a_iald (pc := 17) dX7_byteAt_17 (by decide) s0_264 ho13.1 ho13.2 ?_
        refine a_goto (tgt := 22) (pc := 18) dX7_byteAt_18 (by decide) ?_
        refine a_ireti (pc := 22) dX7_byteAt_22 rfl rfl (Nat.le_of_ble_eq_true rfl) ⟨rfl, ?_⟩
        refine p_inlS (Ex := _) (As := [(0, M 264 (M 267 2))]) (st := []) (st1 := fun r => [(0, r)])  (pc := 33) dX4_takeNumber_33 ml_RX4_55 (by decide) (Nat.le_of_ble_eq_true rfl) rfl (fun _ => rfl) (by decide) (by decide) (Nat.le_of_ble_eq_true rfl) rfl ?_
        refine a_iload_n (pc := 0) dX4_isFigure_0 rfl ?_
        refine a_bipush (pc := 1) dX4_isFigure_1 (by decide) (by decide +kernel) ?_
        refine a_icmp_lt (tgt := 16) (pc := 3) dX4_isFigure_3 (by decide) (fun hc14 => ?_) (fun hc14 => ?_)
        · replace h := h.1 hc14
          refine a_iconst (pc := 16) dX4_isFigure_16 (by decide) ?_
          refine a_iretz (pc := 17) dX4_isFigure_17 rfl rfl (Nat.le_of_ble_eq_true rfl) (by decide) ⟨rfl, ?_⟩
          refine a_if_eq (tgt := 81) (pc := 36) dX4_takeNumber_36 (by decide) (fun _ => ?_) (fun hc => absurd (by decide) hc)
          refine a_aload_n (pc := 81) dX4_takeNumber_81 (by decide) rfl ?_
          refine a_getI (y := 2) (pc := 82) dX4_takeNumber_82 fl_RX4_19 (by decide) s0_267 (Or.inl rfl) rfl ?_
          refine a_aload_n (pc := 85) dX4_takeNumber_85 (by decide) rfl ?_
          refine a_getI (y := 5) (pc := 86) dX4_takeNumber_86 fl_RX4_29 (by decide) s0_267 (Or.inl rfl) rfl ?_
          refine a_icmp_ne (tgt := 101) (pc := 89) dX4_takeNumber_89 (by decide) (fun hc15 => ?_) (fun hc15 => ?_)
          · replace h := h.1 hc15
            refine a_aload_n (pc := 101) dX4_takeNumber_101 (by decide) rfl ?_
            refine a_getI (y := 4) (pc := 102) dX4_takeNumber_102 fl_RX4_26 (by decide) s0_267 (Or.inl rfl) rfl ?_
            refine a_iload_n (pc := 105) dX4_takeNumber_105 rfl ?_
            refine a_icmp_lt (tgt := 117) (pc := 106) dX4_takeNumber_106 (by decide) (fun hc16 => ?_) (fun hc16 => ?_)
            · replace h := h.1 hc16
              refine a_aload_n (pc := 117) dX4_takeNumber_117 (by decide) rfl ?_
              refine a_aload_n (pc := 118) dX4_takeNumber_118 (by decide) rfl ?_
              refine a_getI (y := 5) (pc := 119) dX4_takeNumber_119 fl_RX4_29 (by decide) s0_267 (Or.inl rfl) rfl ?_
              refine p_inlV (Ex := _) (As := [(0, M 267 5)]) (st := []) (st1 := fun r => [(0, r)])  (pc := 122) dX4_takeNumber_122 ml_RX4_52 (by decide) s0_267 rfl (by decide) (Nat.le_of_ble_eq_true rfl) rfl (fun _ => rfl) (by decide) (by decide) (Nat.le_of_ble_eq_true rfl) rfl ?_
              refine a_aload_n (pc := 0) dX4_failAt_0 (by decide) rfl ?_
              refine a_iload_n (pc := 1) dX4_failAt_1 rfl ?_
              refine a_putI (y := 6) (pc := 2) dX4_failAt_2 fl_RX4_32 (by decide) s0_267 rfl rfl (tyX4_ok 6 (by decide)) rfl ?_
              refine a_iconst (pc := 5) dX4_failAt_5 (by decide) ?_
              refine a_iretz (pc := 6) dX4_failAt_6 rfl rfl (Nat.le_of_ble_eq_true rfl) (by decide) ⟨rfl, ?_⟩
              exact a_iretz (pc := 125) dX4_takeNumber_125 rfl rfl (Nat.le_of_ble_eq_true rfl) (by decide) ⟨rfl, h⟩
            · replace h := h.2 hc16
              refine a_aload_n (pc := 109) dX4_takeNumber_109 (by decide) rfl ?_
              refine a_getI (y := 4) (pc := 110) dX4_takeNumber_110 fl_RX4_26 (by decide) s0_267 (Or.inl rfl) rfl ?_
              refine a_iload_n (pc := 113) dX4_takeNumber_113 rfl ?_
              refine a_icmp_le (tgt := 126) (pc := 114) dX4_takeNumber_114 (by decide) (fun hc17 => ?_) (fun hc17 => ?_)
              · replace h := h.1 hc17
                refine a_iconst (pc := 126) dX4_takeNumber_126 (by decide) ?_
                exact a_iretz (pc := 127) dX4_takeNumber_127 rfl rfl (Nat.le_of_ble_eq_true rfl) (by decide) ⟨rfl, h⟩
              · replace h := h.2 hc17
                refine a_aload_n (pc := 117) dX4_takeNumber_117 (by decide) rfl ?_
                refine a_aload_n (pc := 118) dX4_takeNumber_118 (by decide) rfl ?_
                refine a_getI (y := 5) (pc := 119) dX4_takeNumber_119 fl_RX4_29 (by decide) s0_267 (Or.inl rfl) rfl ?_
                refine p_inlV (Ex := _) (As := [(0, M 267 5)]) (st := []) (st1 := fun r => [(0, r)])  (pc := 122) dX4_takeNumber_122 ml_RX4_52 (by decide) s0_267 rfl (by decide) (Nat.le_of_ble_eq_true rfl) rfl (fun _ => rfl) (by decide) (by decide) (Nat.le_of_ble_eq_true rfl) rfl ?_
                refine a_aload_n (pc := 0) dX4_failAt_0 (by decide) rfl ?_
                refine a_iload_n (pc := 1) dX4_failAt_1 rfl ?_
                refine a_putI (y := 6) (pc := 2) dX4_failAt_2 fl_RX4_32 (by decide) s0_267 rfl rfl (tyX4_ok 6 (by decide)) rfl ?_
                refine a_iconst (pc := 5) dX4_failAt_5 (by decide) ?_
                refine a_iretz (pc := 6) dX4_failAt_6 rfl rfl (Nat.le_of_ble_eq_true rfl) (by decide) ⟨rfl, ?_⟩
                exact a_iretz (pc := 125) dX4_takeNumber_125 rfl rfl (Nat.le_of_ble_eq_true rfl) (by decide) ⟨rfl, h⟩
          · replace h := h.2 hc15
            refine a_aload_n (pc := 92) dX4_takeNumber_92 (by decide) rfl ?_
            refine a_aload_n (pc := 93) dX4_takeNumber_93 (by decide) rfl ?_
            refine a_getI (y := 2) (pc := 94) dX4_takeNumber_94 fl_RX4_19 (by decide) s0_267 (Or.inl rfl) rfl ?_
            refine p_inlV (Ex := _) (As := [(0, M 267 2)]) (st := []) (st1 := fun r => [(0, r)])  (pc := 97) dX4_takeNumber_97 ml_RX4_52 (by decide) s0_267 rfl (by decide) (Nat.le_of_ble_eq_true rfl) rfl (fun _ => rfl) (by decide) (by decide) (Nat.le_of_ble_eq_true rfl) rfl ?_
            refine a_aload_n (pc := 0) dX4_failAt_0 (by decide) rfl ?_
            refine a_iload_n (pc := 1) dX4_failAt_1 rfl ?_
            refine a_putI (y := 6) (pc := 2) dX4_failAt_2 fl_RX4_32 (by decide) s0_267 rfl rfl (tyX4_ok 6 (by decide)) rfl ?_
            refine a_iconst (pc := 5) dX4_failAt_5 (by decide) ?_
            refine a_iretz (pc := 6) dX4_failAt_6 rfl rfl (Nat.le_of_ble_eq_true rfl) (by decide) ⟨rfl, ?_⟩
            exact a_iretz (pc := 100) dX4_takeNumber_100 rfl rfl (Nat.le_of_ble_eq_true rfl) (by decide) ⟨rfl, h⟩
        · replace h := h.2 hc14
          refine a_iload_n (pc := 6) dX4_isFigure_6 rfl ?_
          refine a_bipush (pc := 7) dX4_isFigure_7 (by decide) (by decide +kernel) ?_
          refine a_icmp_gt (tgt := 16) (pc := 9) dX4_isFigure_9 (by decide) (fun hc18 => ?_) (fun hc18 => ?_)
          · replace h := h.1 hc18
            refine a_iconst (pc := 16) dX4_isFigure_16 (by decide) ?_
            refine a_iretz (pc := 17) dX4_isFigure_17 rfl rfl (Nat.le_of_ble_eq_true rfl) (by decide) ⟨rfl, ?_⟩
            refine a_if_eq (tgt := 81) (pc := 36) dX4_takeNumber_36 (by decide) (fun _ => ?_) (fun hc => absurd (by decide) hc)
            refine a_aload_n (pc := 81) dX4_takeNumber_81 (by decide) rfl ?_
            refine a_getI (y := 2) (pc := 82) dX4_takeNumber_82 fl_RX4_19 (by decide) s0_267 (Or.inl rfl) rfl ?_
            refine a_aload_n (pc := 85) dX4_takeNumber_85 (by decide) rfl ?_
            refine a_getI (y := 5) (pc := 86) dX4_takeNumber_86 fl_RX4_29 (by decide) s0_267 (Or.inl rfl) rfl ?_
            refine a_icmp_ne (tgt := 101) (pc := 89) dX4_takeNumber_89 (by decide) (fun hc19 => ?_) (fun hc19 => ?_)
            · replace h := h.1 hc19
              refine a_aload_n (pc := 101) dX4_takeNumber_101 (by decide) rfl ?_
              refine a_getI (y := 4) (pc := 102) dX4_takeNumber_102 fl_RX4_26 (by decide) s0_267 (Or.inl rfl) rfl ?_
              refine a_iload_n (pc := 105) dX4_takeNumber_105 rfl ?_
              refine a_icmp_lt (tgt := 117) (pc := 106) dX4_takeNumber_106 (by decide) (fun hc20 => ?_) (fun hc20 => ?_)
              · replace h := h.1 hc20
                refine a_aload_n (pc := 117) dX4_takeNumber_117 (by decide) rfl ?_
                refine a_aload_n (pc := 118) dX4_takeNumber_118 (by decide) rfl ?_
                refine a_getI (y := 5) (pc := 119) dX4_takeNumber_119 fl_RX4_29 (by decide) s0_267 (Or.inl rfl) rfl ?_
                refine p_inlV (Ex := _) (As := [(0, M 267 5)]) (st := []) (st1 := fun r => [(0, r)])  (pc := 122) dX4_takeNumber_122 ml_RX4_52 (by decide) s0_267 rfl (by decide) (Nat.le_of_ble_eq_true rfl) rfl (fun _ => rfl) (by decide) (by decide) (Nat.le_of_ble_eq_true rfl) rfl ?_
                refine a_aload_n (pc := 0) dX4_failAt_0 (by decide) rfl ?_
                refine a_iload_n (pc := 1) dX4_failAt_1 rfl ?_
                refine a_putI (y := 6) (pc := 2) dX4_failAt_2 fl_RX4_32 (by decide) s0_267 rfl rfl (tyX4_ok 6 (by decide)) rfl ?_
                refine a_iconst (pc := 5) dX4_failAt_5 (by decide) ?_
                refine a_iretz (pc := 6) dX4_failAt_6 rfl rfl (Nat.le_of_ble_eq_true rfl) (by decide) ⟨rfl, ?_⟩
                exact a_iretz (pc := 125) dX4_takeNumber_125 rfl rfl (Nat.le_of_ble_eq_true rfl) (by decide) ⟨rfl, h⟩
              · replace h := h.2 hc20
                refine a_aload_n (pc := 109) dX4_takeNumber_109 (by decide) rfl ?_
                refine a_getI (y := 4) (pc := 110) dX4_takeNumber_110 fl_RX4_26 (by decide) s0_267 (Or.inl rfl) rfl ?_
                refine a_iload_n (pc := 113) dX4_takeNumber_113 rfl ?_
                refine a_icmp_le (tgt := 126) (pc := 114) dX4_takeNumber_114 (by decide) (fun hc21 => ?_) (fun hc21 => ?_)
                · replace h := h.1 hc21
                  refine a_iconst (pc := 126) dX4_takeNumber_126 (by decide) ?_
                  exact a_iretz (pc := 127) dX4_takeNumber_127 rfl rfl (Nat.le_of_ble_eq_true rfl) (by decide) ⟨rfl, h⟩
                · replace h := h.2 hc21
                  refine a_aload_n (pc := 117) dX4_takeNumber_117 (by decide) rfl ?_
                  refine a_aload_n (pc := 118) dX4_takeNumber_118 (by decide) rfl ?_
                  refine a_getI (y := 5) (pc := 119) dX4_takeNumber_119 fl_RX4_29 (by decide) s0_267 (Or.inl rfl) rfl ?_
                  refine p_inlV (Ex := _) (As := [(0, M 267 5)]) (st := []) (st1 := fun r => [(0, r)])  (pc := 122) dX4_takeNumber_122 ml_RX4_52 (by decide) s0_267 rfl (by decide) (Nat.le_of_ble_eq_true rfl) rfl (fun _ => rfl) (by decide) (by decide) (Nat.le_of_ble_eq_true rfl) rfl ?_
                  refine a_aload_n (pc := 0) dX4_failAt_0 (by decide) rfl ?_
                  refine a_iload_n (pc := 1) dX4_failAt_1 rfl ?_
                  refine a_putI (y := 6) (pc := 2) dX4_failAt_2 fl_RX4_32 (by decide) s0_267 rfl rfl (tyX4_ok 6 (by decide)) rfl ?_
                  refine a_iconst (pc := 5) dX4_failAt_5 (by decide) ?_
                  refine a_iretz (pc := 6) dX4_failAt_6 rfl rfl (Nat.le_of_ble_eq_true rfl) (by decide) ⟨rfl, ?_⟩
                  exact a_iretz (pc := 125) dX4_takeNumber_125 rfl rfl (Nat.le_of_ble_eq_true rfl) (by decide) ⟨rfl, h⟩
            · replace h := h.2 hc19
              refine a_aload_n (pc := 92) dX4_takeNumber_92 (by decide) rfl ?_
              refine a_aload_n (pc := 93) dX4_takeNumber_93 (by decide) rfl ?_
              refine a_getI (y := 2) (pc := 94) dX4_takeNumber_94 fl_RX4_19 (by decide) s0_267 (Or.inl rfl) rfl ?_
              refine p_inlV (Ex := _) (As := [(0, M 267 2)]) (st := []) (st1 := fun r => [(0, r)])  (pc := 97) dX4_takeNumber_97 ml_RX4_52 (by decide) s0_267 rfl (by decide) (Nat.le_of_ble_eq_true rfl) rfl (fun _ => rfl) (by decide) (by decide) (Nat.le_of_ble_eq_true rfl) rfl ?_
              refine a_aload_n (pc := 0) dX4_failAt_0 (by decide) rfl ?_
              refine a_iload_n (pc := 1) dX4_failAt_1 rfl ?_
              refine a_putI (y := 6) (pc := 2) dX4_failAt_2 fl_RX4_32 (by decide) s0_267 rfl rfl (tyX4_ok 6 (by decide)) rfl ?_
              refine a_iconst (pc := 5) dX4_failAt_5 (by decide) ?_
              refine a_iretz (pc := 6) dX4_failAt_6 rfl rfl (Nat.le_of_ble_eq_true rfl) (by decide) ⟨rfl, ?_⟩
              exact a_iretz (pc := 100) dX4_takeNumber_100 rfl rfl (Nat.le_of_ble_eq_true rfl) (by decide) ⟨rfl, h⟩
          · replace h := h.2 hc18
            refine a_iconst (pc := 12) dX4_isFigure_12 (by decide) ?_
            refine a_goto (tgt := 17) (pc := 13) dX4_isFigure_13 (by decide) ?_
            refine a_iretz (pc := 17) dX4_isFigure_17 rfl rfl (Nat.le_of_ble_eq_true rfl) (by decide) ⟨rfl, ?_⟩
            refine a_if_eq (tgt := 81) (pc := 36) dX4_takeNumber_36 (by decide) (fun hc => absurd hc (by decide)) (fun _ => ?_)
            refine a_aload_n (pc := 39) dX4_takeNumber_39 (by decide) rfl ?_
            refine a_aload_n (pc := 40) dX4_takeNumber_40 (by decide) rfl ?_
            refine a_getI (y := 4) (pc := 41) dX4_takeNumber_41 fl_RX4_26 (by decide) s0_267 (Or.inl rfl) rfl ?_
            refine a_bipush (pc := 44) dX4_takeNumber_44 (by decide) (by decide +kernel) ?_
            have ho22 := h.1
            replace h := h.2
            refine a_imul (pc := 46) dX4_takeNumber_46 ho22 ?_
            refine a_aload_n (pc := 47) dX4_takeNumber_47 (by decide) rfl ?_
            refine a_getR (y := 263) (pc := 48) dX4_takeNumber_48 fl_RX4_15 (by decide) s0_267 rfl rfl ?_
            refine a_aload_n (pc := 51) dX4_takeNumber_51 (by decide) rfl ?_
            refine a_getI (y := 2) (pc := 52) dX4_takeNumber_52 fl_RX4_19 (by decide) s0_267 (Or.inl rfl) rfl ?_
            refine p_inlV (Ex := _) (As := [(0, M 267 2)]) (st := [(0, (M 267 4) * 10), (2, 267)]) (st1 := fun r => [(0, r), (0, (M 267 4) * 10), (2, 267)])  (pc := 55) dX4_takeNumber_55 ml_RX4_48 (by decide) s0_263 rfl (by decide) (Nat.le_of_ble_eq_true rfl) rfl (fun _ => rfl) (by decide) (by decide) (Nat.le_of_ble_eq_true rfl) rfl ?_
            refine a_iload_n (pc := 0) dX7_byteAt_0 rfl ?_
            refine a_if_lt (tgt := 21) (pc := 1) dX7_byteAt_1 (by decide) (fun hc => absurd hc hc5) (fun _ => ?_)
            refine a_iload_n (pc := 4) dX7_byteAt_4 rfl ?_
            refine a_aload_n (pc := 5) dX7_byteAt_5 (by decide) rfl ?_
            refine a_getI (y := 1) (pc := 6) dX7_byteAt_6 fl_RX7_19 (by decide) s0_263 (Or.inl rfl) rfl ?_
            refine a_icmp_ge (tgt := 21) (pc := 9) dX7_byteAt_9 (by decide) (fun hc => absurd hc hc9) (fun _ => ?_)
            refine a_aload_n (pc := 12) dX7_byteAt_12 (by decide) rfl ?_
            refine a_getR (y := 264) (pc := 13) dX7_byteAt_13 fl_RX7_13 (by decide) s0_263 rfl rfl ?_
            refine a_iload_n (pc := 16) dX7_byteAt_16 rfl ?_
            refine a_iald (pc := 17) dX7_byteAt_17 (by decide) s0_264 ho13.1 ho13.2 ?_
            refine a_goto (tgt := 22) (pc := 18) dX7_byteAt_18 (by decide) ?_
            refine a_ireti (pc := 22) dX7_byteAt_22 rfl rfl (Nat.le_of_ble_eq_true rfl) ⟨rfl, ?_⟩
            have ho23 := h.1
            replace h := h.2
            refine a_iadd (pc := 58) dX4_takeNumber_58 ho23 ?_
            refine a_bipush (pc := 59) dX4_takeNumber_59 (by decide) (by decide +kernel) ?_
            have ho24 := h.1
            replace h := h.2
            refine a_isub (pc := 61) dX4_takeNumber_61 ho24 ?_
            refine a_putI (y := 4) (pc := 62) dX4_takeNumber_62 fl_RX4_26 (by decide) s0_267 rfl rfl (tyX4_ok 4 (by decide)) rfl ?_
            refine a_aload_n (pc := 65) dX4_takeNumber_65 (by decide) rfl ?_
            refine a_dup (pc := 66) dX4_takeNumber_66 n21 ?_
            refine a_getI (y := 2) (pc := 67) dX4_takeNumber_67 fl_RX4_19 (by decide) s0_267 (Or.inl rfl) rfl ?_
            refine a_eq (y := M 267 2) rfl ?_
            refine a_iconst (pc := 70) dX4_takeNumber_70 (by decide) ?_
            have ho25 := h.1
            replace h := h.2
            refine a_iadd (pc := 71) dX4_takeNumber_71 ho25 ?_
            refine a_putI (y := 2) (pc := 72) dX4_takeNumber_72 fl_RX4_19 (by decide) s0_267 rfl rfl (tyX4_ok 2 (by decide)) rfl ?_
            have ho26 := h.1
            replace h := h.2
            refine a_iinc (ls1 := [(2, 267), (0, l1), (0, l2), (0, l3), (0, l4 + 1)]) (pc := 75) dX4_takeNumber_75 rfl (by decide) (hp1 (t := 0) rfl (by decide)) ho26 rfl ?_
            refine a_goto (tgt := 16) (pc := 78) dX4_takeNumber_78 (by decide) ?_
            exact h
theorem E_Reader_takeNumber {l1 l2 l3 : Int} {M : Mem} {Q : Int → Mem → Prop} (h : AW mX4_takeNumber 0 [(2, 267), (0, l1), (0, l2), (0, l3), (9, 0)] M Q) : Calls mX4_takeNumber [(2, 267), (0, l1), (0, l2), (0, l3)] S0 M Q := calls_of (by decide) (by decide) (Nat.le_of_ble_eq_true rfl) rfl h
set_option maxRecDepth 100000 in
set_option maxHeartbeats 4000000 in
theorem B_Search_arriveAt_0 {l1 l2 l3 l4 : Int} (ha4 : isA l4 12) {M : Mem} {Q : Int → Mem → Prop} (h : ((¬ l1 = l2 → ((0 : Int) ≤ l1 ∧ l1 < 12) ∧ AW mX6_arriveAt 16 [(2, 229), (0, l1), (0, l2), (0, l3), (2, l4), (0, M l4 l1), (0, 0), (9, 0), (9, 0)] M Q) ∧ (l1 = l2 → Q l3 M))) : AW mX6_arriveAt 0 [(2, 229), (0, l1), (0, l2), (0, l3), (2, l4), (9, 0), (9, 0), (9, 0), (9, 0)] M Q := by
  refine a_iload_n (pc := 0) dX6_arriveAt_0 rfl ?_
  refine a_iload_n (pc := 1) dX6_arriveAt_1 rfl ?_
  refine a_icmp_ne (tgt := 7) (pc := 2) dX6_arriveAt_2 (by decide) (fun hc1 => ?_) (fun hc1 => ?_)
  · replace h := h.1 hc1
    refine a_aload (pc := 7) dX6_arriveAt_7 ha4.1 rfl ?_
    refine a_iload_n (pc := 9) dX6_arriveAt_9 rfl ?_
    have ho2 := h.1
    replace h := h.2
    refine a_iald (pc := 10) dX6_arriveAt_10 ha4.1 ha4.2 ho2.1 ho2.2 ?_
    refine a_istore (ls1 := [(2, 229), (0, l1), (0, l2), (0, l3), (2, l4), (0, M l4 l1), (9, 0), (9, 0), (9, 0)]) (pc := 11) dX6_arriveAt_11 (by decide) (hp1 (t := 2) rfl (by decide)) rfl ?_
    refine a_iconst (pc := 13) dX6_arriveAt_13 (by decide) ?_
    refine a_istore (ls1 := [(2, 229), (0, l1), (0, l2), (0, l3), (2, l4), (0, M l4 l1), (0, 0), (9, 0), (9, 0)]) (pc := 14) dX6_arriveAt_14 (by decide) (hp1 (t := 0) rfl (by decide)) rfl ?_
    exact h
  · replace h := h.2 hc1
    refine a_iload_n (pc := 5) dX6_arriveAt_5 rfl ?_
    exact a_ireti (pc := 6) dX6_arriveAt_6 rfl rfl (Nat.le_of_ble_eq_true rfl) ⟨rfl, h⟩
set_option maxRecDepth 100000 in
set_option maxHeartbeats 4000000 in
theorem B_Search_arriveAt_16 {l1 l2 l3 l4 l5 l6 : Int} (ha4 : isA l4 12) {M : Mem} {Q : Int → Mem → Prop} (h : ((12 ≤ l6 → Q l5 M) ∧ (¬ (12 ≤ l6) → ((0 : Int) ≤ l6 ∧ l6 < 12) ∧ ((0 : Int) ≤ l1 ∧ l1 < 12) ∧ ((¬ l6 = l2 → (((M (65 + l6) l1) = 0 → (-2147483648 ≤ l6 + 1 ∧ l6 + 1 ≤ 2147483647) ∧ AW mX6_arriveAt 16 [(2, 229), (0, l1), (0, l2), (0, l3), (2, l4), (0, l5), (0, l6 + 1), (9, 0), (9, 0)] M Q) ∧ (¬ (M (65 + l6) l1) = 0 → (((M l4 l6) = 10000 → (-2147483648 ≤ l6 + 1 ∧ l6 + 1 ≤ 2147483647) ∧ AW mX6_arriveAt 16 [(2, 229), (0, l1), (0, l2), (0, l3), (2, l4), (0, l5), (0, l6 + 1), (9, 0), (9, 0)] M Q) ∧ (¬ (M l4 l6) = 10000 → (-2147483648 ≤ (M l4 l6) + (M (65 + l6) l1) ∧ (M l4 l6) + (M (65 + l6) l1) ≤ 2147483647) ∧ (-2147483648 ≤ l6 + 1 ∧ l6 + 1 ≤ 2147483647) ∧ AW mX6_arriveAt 16 [(2, 229), (0, l1), (0, l2), (0, l3), (2, l4), (0, min l5 ((M l4 l6) + (M (65 + l6) l1))), (0, l6 + 1), (9, 0), (9, 0)] M Q))))) ∧ (l6 = l2 → (((M (65 + l6) l1) = 0 → (-2147483648 ≤ l6 + 1 ∧ l6 + 1 ≤ 2147483647) ∧ AW mX6_arriveAt 16 [(2, 229), (0, l1), (0, l2), (0, l3), (2, l4), (0, l5), (0, l6 + 1), (9, 0), (9, 0)] M Q) ∧ (¬ (M (65 + l6) l1) = 0 → ((l3 = 10000 → (-2147483648 ≤ l6 + 1 ∧ l6 + 1 ≤ 2147483647) ∧ AW mX6_arriveAt 16 [(2, 229), (0, l1), (0, l2), (0, l3), (2, l4), (0, l5), (0, l6 + 1), (9, 0), (9, 0)] M Q) ∧ (¬ l3 = 10000 → (-2147483648 ≤ l3 + (M (65 + l6) l1) ∧ l3 + (M (65 + l6) l1) ≤ 2147483647) ∧ (-2147483648 ≤ l6 + 1 ∧ l6 + 1 ≤ 2147483647) ∧ AW mX6_arriveAt 16 [(2, 229), (0, l1), (0, l2), (0, l3), (2, l4), (0, min l5 (l3 + (M (65 + l6) l1))), (0, l6 + 1), (9, 0), (9, 0)] M Q))))))))) : AW mX6_arriveAt 16 [(2, 229), (0, l1), (0, l2), (0, l3), (2, l4), (0, l5), (0, l6), (9, 0), (9, 0)] M Q := by
  refine a_iload (pc := 16) dX6_arriveAt_16 rfl ?_
  refine a_bipush (pc := 18) dX6_arriveAt_18 (by decide) (by decide +kernel) ?_
  refine a_icmp_ge (tgt := 85) (pc := 20) dX6_arriveAt_20 (by decide) (fun hc1 => ?_) (fun hc1 => ?_)
  · replace h := h.1 hc1
    refine a_iload (pc := 85) dX6_arriveAt_85 rfl ?_
    exact a_ireti (pc := 87) dX6_arriveAt_87 rfl rfl (Nat.le_of_ble_eq_true rfl) ⟨rfl, h⟩
  · replace h := h.2 hc1
    refine a_aload_n (pc := 23) dX6_arriveAt_23 (by decide) rfl ?_
    refine a_getR (y := 1) (pc := 24) dX6_arriveAt_24 fl_RX6_9 (by decide) s0_229 rfl rfl ?_
    refine a_getR (y := 64) (pc := 27) dX6_arriveAt_27 fl_RX6_84 (by decide) s0_1 rfl rfl ?_
    refine a_iload (pc := 30) dX6_arriveAt_30 rfl ?_
    have ho2 := h.1
    replace h := h.2
    have hr3 := rw_64 l6 ho2.1 ho2.2
    refine a_aald (y := 65 + l6) (pc := 32) dX6_arriveAt_32 (by decide) s0_64 ho2.1 ho2.2 (by omega) ?_
    refine a_iload_n (pc := 33) dX6_arriveAt_33 rfl ?_
    have ho4 := h.1
    replace h := h.2
    refine a_iald (pc := 34) dX6_arriveAt_34 hr3.1 hr3.2 ho4.1 ho4.2 ?_
    refine a_istore (ls1 := [(2, 229), (0, l1), (0, l2), (0, l3), (2, l4), (0, l5), (0, l6), (0, M (65 + l6) l1), (9, 0)]) (pc := 35) dX6_arriveAt_35 (by decide) (hp1 (t := 0) rfl (by decide)) rfl ?_
    refine a_iload (pc := 37) dX6_arriveAt_37 rfl ?_
    refine a_iload_n (pc := 39) dX6_arriveAt_39 rfl ?_
    refine a_icmp_ne (tgt := 47) (pc := 40) dX6_arriveAt_40 (by decide) (fun hc5 => ?_) (fun hc5 => ?_)
    · replace h := h.1 hc5
      refine a_aload (pc := 47) dX6_arriveAt_47 ha4.1 rfl ?_
      refine a_iload (pc := 49) dX6_arriveAt_49 rfl ?_
      refine a_iald (pc := 51) dX6_arriveAt_51 ha4.1 ha4.2 ho2.1 ho2.2 ?_
      refine a_istore (ls1 := [(2, 229), (0, l1), (0, l2), (0, l3), (2, l4), (0, l5), (0, l6), (0, M (65 + l6) l1), (0, M l4 l6)]) (pc := 52) dX6_arriveAt_52 (by decide) (hp1 (t := 0) rfl (by decide)) rfl ?_
      refine a_iload (pc := 54) dX6_arriveAt_54 rfl ?_
      refine a_if_eq (tgt := 79) (pc := 56) dX6_arriveAt_56 (by decide) (fun hc6 => ?_) (fun hc6 => ?_)
      · replace h := h.1 hc6
        have ho7 := h.1
        replace h := h.2
        refine a_iinc (ls1 := [(2, 229), (0, l1), (0, l2), (0, l3), (2, l4), (0, l5), (0, l6 + 1), (0, M (65 + l6) l1), (0, M l4 l6)]) (pc := 79) dX6_arriveAt_79 rfl (by decide) (hp1 (t := 0) rfl (by decide)) ho7 rfl ?_
        refine a_goto (tgt := 16) (pc := 82) dX6_arriveAt_82 (by decide) ?_
        exact a_msk [true, true, true, true, true, true, true, false, false] rfl h
      · replace h := h.2 hc6
        refine a_iload (pc := 59) dX6_arriveAt_59 rfl ?_
        refine a_sipush (pc := 61) dX6_arriveAt_61 (by decide) (by decide +kernel) ?_
        refine a_icmp_eq (tgt := 79) (pc := 64) dX6_arriveAt_64 (by decide) (fun hc8 => ?_) (fun hc8 => ?_)
        · replace h := h.1 hc8
          have ho9 := h.1
          replace h := h.2
          refine a_iinc (ls1 := [(2, 229), (0, l1), (0, l2), (0, l3), (2, l4), (0, l5), (0, l6 + 1), (0, M (65 + l6) l1), (0, M l4 l6)]) (pc := 79) dX6_arriveAt_79 rfl (by decide) (hp1 (t := 0) rfl (by decide)) ho9 rfl ?_
          refine a_goto (tgt := 16) (pc := 82) dX6_arriveAt_82 (by decide) ?_
          exact a_msk [true, true, true, true, true, true, true, false, false] rfl h
        · replace h := h.2 hc8
          refine a_iload (pc := 67) dX6_arriveAt_67 rfl ?_
          refine a_iload (pc := 69) dX6_arriveAt_69 rfl ?_
          refine a_iload (pc := 71) dX6_arriveAt_71 rfl ?_
          have ho10 := h.1
          replace h := h.2
          refine a_iadd (pc := 73) dX6_arriveAt_73 ho10 ?_
          refine a_mmin (z := min l5 ((M l4 l6) + (M (65 + l6) l1))) (pc := 74) dX6_arriveAt_74 ml_RX6_87 is_min rfl (by decide) (by decide) (Nat.le_of_ble_eq_true rfl) (Nat.le_of_ble_eq_true rfl) (Nat.le_of_ble_eq_true rfl) ?_
          refine a_istore (ls1 := [(2, 229), (0, l1), (0, l2), (0, l3), (2, l4), (0, min l5 ((M l4 l6) + (M (65 + l6) l1))), (0, l6), (0, M (65 + l6) l1), (0, M l4 l6)]) (pc := 77) dX6_arriveAt_77 (by decide) (hp1 (t := 2) rfl (by decide)) rfl ?_
          have ho11 := h.1
          replace h := h.2
          refine a_iinc (ls1 := [(2, 229), (0, l1), (0, l2), (0, l3), (2, l4), (0, min l5 ((M l4 l6) + (M (65 + l6) l1))), (0, l6 + 1), (0, M (65 + l6) l1), (0, M l4 l6)]) (pc := 79) dX6_arriveAt_79 rfl (by decide) (hp1 (t := 0) rfl (by decide)) ho11 rfl ?_
          refine a_goto (tgt := 16) (pc := 82) dX6_arriveAt_82 (by decide) ?_
          exact a_msk [true, true, true, true, true, true, true, false, false] rfl h
    · replace h := h.2 hc5
      refine a_iload_n (pc := 43) dX6_arriveAt_43 rfl ?_
      refine a_goto (tgt := 52) (pc := 44) dX6_arriveAt_44 (by decide) ?_
      refine a_istore (ls1 := [(2, 229), (0, l1), (0, l2), (0, l3), (2, l4), (0, l5), (0, l6), (0, M (65 + l6) l1), (0, l3)]) (pc := 52) dX6_arriveAt_52 (by decide) (hp1 (t := 0) rfl (by decide)) rfl ?_
      refine a_iload (pc := 54) dX6_arriveAt_54 rfl ?_
      refine a_if_eq (tgt := 79) (pc := 56) dX6_arriveAt_56 (by decide) (fun hc12 => ?_) (fun hc12 => ?_)
      · replace h := h.1 hc12
        have ho13 := h.1
        replace h := h.2
        refine a_iinc (ls1 := [(2, 229), (0, l1), (0, l2), (0, l3), (2, l4), (0, l5), (0, l6 + 1), (0, M (65 + l6) l1), (0, l3)]) (pc := 79) dX6_arriveAt_79 rfl (by decide) (hp1 (t := 0) rfl (by decide)) ho13 rfl ?_
        refine a_goto (tgt := 16) (pc := 82) dX6_arriveAt_82 (by decide) ?_
        exact a_msk [true, true, true, true, true, true, true, false, false] rfl h
      · replace h := h.2 hc12
        refine a_iload (pc := 59) dX6_arriveAt_59 rfl ?_
        refine a_sipush (pc := 61) dX6_arriveAt_61 (by decide) (by decide +kernel) ?_
        refine a_icmp_eq (tgt := 79) (pc := 64) dX6_arriveAt_64 (by decide) (fun hc14 => ?_) (fun hc14 => ?_)
        · replace h := h.1 hc14
          have ho15 := h.1
          replace h := h.2
          refine a_iinc (ls1 := [(2, 229), (0, l1), (0, l2), (0, l3), (2, l4), (0, l5), (0, l6 + 1), (0, M (65 + l6) l1), (0, l3)]) (pc := 79) dX6_arriveAt_79 rfl (by decide) (hp1 (t := 0) rfl (by decide)) ho15 rfl ?_
          refine a_goto (tgt := 16) (pc := 82) dX6_arriveAt_82 (by decide) ?_
          exact a_msk [true, true, true, true, true, true, true, false, false] rfl h
        · replace h := h.2 hc14
          refine a_iload (pc := 67) dX6_arriveAt_67 rfl ?_
          refine a_iload (pc := 69) dX6_arriveAt_69 rfl ?_
          refine a_iload (pc := 71) dX6_arriveAt_71 rfl ?_
          have ho16 := h.1
          replace h := h.2
          refine a_iadd (pc := 73) dX6_arriveAt_73 ho16 ?_
          refine a_mmin (z := min l5 (l3 + (M (65 + l6) l1))) (pc := 74) dX6_arriveAt_74 ml_RX6_87 is_min rfl (by decide) (by decide) (Nat.le_of_ble_eq_true rfl) (Nat.le_of_ble_eq_true rfl) (Nat.le_of_ble_eq_true rfl) ?_
          refine a_istore (ls1 := [(2, 229), (0, l1), (0, l2), (0, l3), (2, l4), (0, min l5 (l3 + (M (65 + l6) l1))), (0, l6), (0, M (65 + l6) l1), (0, l3)]) (pc := 77) dX6_arriveAt_77 (by decide) (hp1 (t := 2) rfl (by decide)) rfl ?_
          have ho17 := h.1
          replace h := h.2
          refine a_iinc (ls1 := [(2, 229), (0, l1), (0, l2), (0, l3), (2, l4), (0, min l5 (l3 + (M (65 + l6) l1))), (0, l6 + 1), (0, M (65 + l6) l1), (0, l3)]) (pc := 79) dX6_arriveAt_79 rfl (by decide) (hp1 (t := 0) rfl (by decide)) ho17 rfl ?_
          refine a_goto (tgt := 16) (pc := 82) dX6_arriveAt_82 (by decide) ?_
          exact a_msk [true, true, true, true, true, true, true, false, false] rfl h
theorem E_Search_arriveAt {l1 l2 l3 l4 : Int} {M : Mem} {Q : Int → Mem → Prop} (h : AW mX6_arriveAt 0 [(2, 229), (0, l1), (0, l2), (0, l3), (2, l4), (9, 0), (9, 0), (9, 0), (9, 0)] M Q) : Calls mX6_arriveAt [(2, 229), (0, l1), (0, l2), (0, l3), (2, l4)] S0 M Q := calls_of (by decide) (by decide) (Nat.le_of_ble_eq_true rfl) rfl h
set_option maxRecDepth 100000 in
set_option maxHeartbeats 4000000 in
theorem B_Text_putNumber_0 {l1 : Int} {M : Mem} {Q : Int → Mem → Prop} (h : ((l1 < 10 → ((0 : Int) ≤ l1) ∧ (-2147483648 ≤ 48 + (l1 % 10) ∧ 48 + (l1 % 10) ≤ 2147483647) ∧ Calls mX7_put [(2, 265), (0, 48 + (l1 % 10))] S0 M (fun r4 M5 => Q 0 M5)) ∧ (¬ (l1 < 10) → ((0 : Int) ≤ l1) ∧ (-2147483648 ≤ 48 + (l1 / 10) ∧ 48 + (l1 / 10) ≤ 2147483647) ∧ Calls mX7_put [(2, 265), (0, 48 + (l1 / 10))] S0 M (fun r8 M9 => (-2147483648 ≤ 48 + (l1 % 10) ∧ 48 + (l1 % 10) ≤ 2147483647) ∧ Calls mX7_put [(2, 265), (0, 48 + (l1 % 10))] S0 M9 (fun r11 M12 => Q 0 M12))))) : AW mX7_putNumber 0 [(2, 265), (0, l1)] M Q := by
  refine a_iload_n (pc := 0) dX7_putNumber_0 rfl ?_
  refine a_bipush (pc := 1) dX7_putNumber_1 (by decide) (by decide +kernel) ?_
  refine a_icmp_lt (tgt := 17) (pc := 3) dX7_putNumber_3 (by decide) (fun hc1 => ?_) (fun hc1 => ?_)
  · replace h := h.1 hc1
    refine a_aload_n (pc := 17) dX7_putNumber_17 (by decide) rfl ?_
    refine a_bipush (pc := 18) dX7_putNumber_18 (by decide) (by decide +kernel) ?_
    refine a_iload_n (pc := 20) dX7_putNumber_20 rfl ?_
    refine a_bipush (pc := 21) dX7_putNumber_21 (by decide) (by decide +kernel) ?_
    have ho2 := h.1
    replace h := h.2
    refine a_irem (pc := 23) dX7_putNumber_23 ho2 (by decide) ?_
    have ho3 := h.1
    replace h := h.2
    refine a_iadd (pc := 24) dX7_putNumber_24 ho3 ?_
    refine p_callV (As := [(0, 48 + (l1 % 10))]) (st := []) (st1 := fun r => [])  (pc := 25) dX7_putNumber_25 ml_RX7_23 (by decide) s0_265 rfl (by decide) (Nat.le_of_ble_eq_true rfl) rfl (fun _ => rfl) h (fun r4 M5 h => ?_)
    exact a_vret (pc := 28) dX7_putNumber_28 rfl rfl (Nat.le_of_ble_eq_true rfl) ⟨rfl, h⟩
  · replace h := h.2 hc1
    refine a_aload_n (pc := 6) dX7_putNumber_6 (by decide) rfl ?_
    refine a_bipush (pc := 7) dX7_putNumber_7 (by decide) (by decide +kernel) ?_
    refine a_iload_n (pc := 9) dX7_putNumber_9 rfl ?_
    refine a_bipush (pc := 10) dX7_putNumber_10 (by decide) (by decide +kernel) ?_
    have ho6 := h.1
    replace h := h.2
    refine a_idiv (pc := 12) dX7_putNumber_12 ho6 (by decide) ?_
    have ho7 := h.1
    replace h := h.2
    refine a_iadd (pc := 13) dX7_putNumber_13 ho7 ?_
    refine p_callV (As := [(0, 48 + (l1 / 10))]) (st := []) (st1 := fun r => [])  (pc := 14) dX7_putNumber_14 ml_RX7_23 (by decide) s0_265 rfl (by decide) (Nat.le_of_ble_eq_true rfl) rfl (fun _ => rfl) h (fun r8 M9 h => ?_)
    refine a_aload_n (pc := 17) dX7_putNumber_17 (by decide) rfl ?_
    refine a_bipush (pc := 18) dX7_putNumber_18 (by decide) (by decide +kernel) ?_
    refine a_iload_n (pc := 20) dX7_putNumber_20 rfl ?_
    refine a_bipush (pc := 21) dX7_putNumber_21 (by decide) (by decide +kernel) ?_
    refine a_irem (pc := 23) dX7_putNumber_23 ho6 (by decide) ?_
    have ho10 := h.1
    replace h := h.2
    refine a_iadd (pc := 24) dX7_putNumber_24 ho10 ?_
    refine p_callV (As := [(0, 48 + (l1 % 10))]) (st := []) (st1 := fun r => [])  (pc := 25) dX7_putNumber_25 ml_RX7_23 (by decide) s0_265 rfl (by decide) (Nat.le_of_ble_eq_true rfl) rfl (fun _ => rfl) h (fun r11 M12 h => ?_)
    exact a_vret (pc := 28) dX7_putNumber_28 rfl rfl (Nat.le_of_ble_eq_true rfl) ⟨rfl, h⟩
theorem E_Text_putNumber {l1 : Int} {M : Mem} {Q : Int → Mem → Prop} (h : AW mX7_putNumber 0 [(2, 265), (0, l1)] M Q) : Calls mX7_putNumber [(2, 265), (0, l1)] S0 M Q := calls_of (by decide) (by decide) (Nat.le_of_ble_eq_true rfl) rfl h
set_option maxRecDepth 100000 in
set_option maxHeartbeats 4000000 in
theorem B_Lists_begin_0 {l1 l2 : Int} {M : Mem} {Q : Int → Mem → Prop} (h : ((0 : Int) ≤ l1 ∧ l1 < 4) ∧ Calls mJ7_fill_53178 [(2, 270 + l1), (0, 0)] S0 M (fun r3 M4 => Q 0 (up2 M4 274 l1 l2))) : AW mX2_begin 0 [(2, 268), (0, l1), (0, l2)] M Q := by
  refine a_aload_n (pc := 0) dX2_begin_0 (by decide) rfl ?_
  refine a_getR (y := 269) (pc := 1) dX2_begin_1 fl_RX2_11 (by decide) s0_268 rfl rfl ?_
  refine a_iload_n (pc := 4) dX2_begin_4 rfl ?_
  have ho1 := h.1
  replace h := h.2
  have hr2 := rw_269 l1 ho1.1 ho1.2
  refine a_aald (y := 270 + l1) (pc := 5) dX2_begin_5 (by decide) s0_269 ho1.1 ho1.2 (by omega) ?_
  refine a_iconst (pc := 6) dX2_begin_6 (by decide) ?_
  refine p_callS (As := [(2, 270 + l1), (0, 0)]) (st := []) (st1 := fun r => [])  (pc := 7) dX2_begin_7 ml_RX2_18 (by decide) (Nat.le_of_ble_eq_true rfl) rfl (fun _ => rfl) h (fun r3 M4 h => ?_)
  refine a_aload_n (pc := 10) dX2_begin_10 (by decide) rfl ?_
  refine a_getR (y := 274) (pc := 11) dX2_begin_11 fl_RX2_14 (by decide) s0_268 rfl rfl ?_
  refine a_iload_n (pc := 14) dX2_begin_14 rfl ?_
  refine a_iload_n (pc := 15) dX2_begin_15 rfl ?_
  refine a_iast (pc := 16) dX2_begin_16 (by decide) s0_274 ho1.1 ho1.2 ?_
  exact a_vret (pc := 17) dX2_begin_17 rfl rfl (Nat.le_of_ble_eq_true rfl) ⟨rfl, h⟩
theorem E_Lists_begin {l1 l2 : Int} {M : Mem} {Q : Int → Mem → Prop} (h : AW mX2_begin 0 [(2, 268), (0, l1), (0, l2)] M Q) : Calls mX2_begin [(2, 268), (0, l1), (0, l2)] S0 M Q := calls_of (by decide) (by decide) (Nat.le_of_ble_eq_true rfl) rfl h
set_option maxRecDepth 100000 in
set_option maxHeartbeats 4000000 in
theorem B_Net_isServed_0 {l1 : Int} {M : Mem} {Q : Int → Mem → Prop} (h : AW mX3_isServed 2 [(2, 1), (0, l1), (0, 0)] M Q) : AW mX3_isServed 0 [(2, 1), (0, l1), (9, 0)] M Q := by
  refine a_iconst (pc := 0) dX3_isServed_0 (by decide) ?_
  refine a_istore_n (ls1 := [(2, 1), (0, l1), (0, 0)]) (pc := 1) dX3_isServed_1 (by decide) (hp1 (t := 0) rfl (by decide)) rfl ?_
  exact h
set_option maxRecDepth 100000 in
set_option maxHeartbeats 4000000 in
theorem B_Net_isServed_2 {l1 l2 : Int} {M : Mem} {Q : Int → Mem → Prop} (h : (((M 1 0) ≤ l2 → Q 0 M) ∧ (¬ ((M 1 0) ≤ l2) → Calls mX3_placeOf [(2, 1), (0, l2), (0, l1)] S0 M (fun r2 M3 => ((r2 < 0 → (-2147483648 ≤ l2 + 1 ∧ l2 + 1 ≤ 2147483647) ∧ AW mX3_isServed 2 [(2, 1), (0, l1), (0, l2 + 1)] M3 Q) ∧ (¬ (r2 < 0) → Q 1 M3)))))) : AW mX3_isServed 2 [(2, 1), (0, l1), (0, l2)] M Q := by
  refine a_iload_n (pc := 2) dX3_isServed_2 rfl ?_
  refine a_aload_n (pc := 3) dX3_isServed_3 (by decide) rfl ?_
  refine a_getI (y := 0) (pc := 4) dX3_isServed_4 fl_RX3_9 (by decide) s0_1 (Or.inl rfl) rfl ?_
  refine a_icmp_ge (tgt := 27) (pc := 7) dX3_isServed_7 (by decide) (fun hc1 => ?_) (fun hc1 => ?_)
  · replace h := h.1 hc1
    refine a_iconst (pc := 27) dX3_isServed_27 (by decide) ?_
    exact a_iretz (pc := 28) dX3_isServed_28 rfl rfl (Nat.le_of_ble_eq_true rfl) (by decide) ⟨rfl, h⟩
  · replace h := h.2 hc1
    refine a_aload_n (pc := 10) dX3_isServed_10 (by decide) rfl ?_
    refine a_iload_n (pc := 11) dX3_isServed_11 rfl ?_
    refine a_iload_n (pc := 12) dX3_isServed_12 rfl ?_
    refine p_callV (As := [(0, l2), (0, l1)]) (st := []) (st1 := fun r => [(0, r)])  (pc := 13) dX3_isServed_13 ml_RX3_69 (by decide) s0_1 rfl (by decide) (Nat.le_of_ble_eq_true rfl) rfl (fun _ => rfl) h (fun r2 M3 h => ?_)
    refine a_if_lt (tgt := 21) (pc := 16) dX3_isServed_16 (by decide) (fun hc4 => ?_) (fun hc4 => ?_)
    · replace h := h.1 hc4
      have ho5 := h.1
      replace h := h.2
      refine a_iinc (ls1 := [(2, 1), (0, l1), (0, l2 + 1)]) (pc := 21) dX3_isServed_21 rfl (by decide) (hp1 (t := 0) rfl (by decide)) ho5 rfl ?_
      refine a_goto (tgt := 2) (pc := 24) dX3_isServed_24 (by decide) ?_
      exact h
    · replace h := h.2 hc4
      refine a_iconst (pc := 19) dX3_isServed_19 (by decide) ?_
      exact a_iretz (pc := 20) dX3_isServed_20 rfl rfl (Nat.le_of_ble_eq_true rfl) (by decide) ⟨rfl, h⟩
theorem E_Net_isServed {l1 : Int} {M : Mem} {Q : Int → Mem → Prop} (h : AW mX3_isServed 0 [(2, 1), (0, l1), (9, 0)] M Q) : Calls mX3_isServed [(2, 1), (0, l1)] S0 M Q := calls_of (by decide) (by decide) (Nat.le_of_ble_eq_true rfl) rfl h
set_option maxRecDepth 100000 in
set_option maxHeartbeats 4000000 in
theorem B_Net_beginTrip_0 {l1 l2 : Int} {M : Mem} {Q : Int → Mem → Prop} (h : ((0 : Int) ≤ l1 ∧ l1 < 8) ∧ (-2147483648 ≤ l1 * 6 ∧ l1 * 6 ≤ 2147483647) ∧ (-2147483648 ≤ (l1 * 6) + (M 4 l1) ∧ (l1 * 6) + (M 4 l1) ≤ 2147483647) ∧ ((0 : Int) ≤ (l1 * 6) + (M 4 l1) ∧ (l1 * 6) + (M 4 l1) < 48) ∧ Calls mX1_goesAt [(0, (up2 M (15 + ((l1 * 6) + (M 4 l1))) 0 l2) 2 l1), (0, l2)] S0 (up2 M (15 + ((l1 * 6) + (M 4 l1))) 0 l2) (fun r6 M7 => ((r6 = 0 → (-2147483648 ≤ (M7 4 l1) + 1 ∧ (M7 4 l1) + 1 ≤ 2147483647) ∧ Q 0 (up2 (up2 M7 63 ((l1 * 6) + (M 4 l1)) 0) 4 l1 ((M7 4 l1) + 1))) ∧ (¬ r6 = 0 → (-2147483648 ≤ (M7 4 l1) + 1 ∧ (M7 4 l1) + 1 ≤ 2147483647) ∧ Q 0 (up2 (up2 M7 63 ((l1 * 6) + (M 4 l1)) 1) 4 l1 ((M7 4 l1) + 1)))))) : AW mX3_beginTrip 0 [(2, 1), (0, l1), (0, l2), (9, 0)] M Q := by
  refine a_iload_n (pc := 0) dX3_beginTrip_0 rfl ?_
  refine a_aload_n (pc := 1) dX3_beginTrip_1 (by decide) rfl ?_
  refine a_getR (y := 4) (pc := 2) dX3_beginTrip_2 fl_RX3_22 (by decide) s0_1 rfl rfl ?_
  refine a_iload_n (pc := 5) dX3_beginTrip_5 rfl ?_
  have ho1 := h.1
  replace h := h.2
  refine a_iald (pc := 6) dX3_beginTrip_6 (by decide) s0_4 ho1.1 ho1.2 ?_
  refine p_inlS (Ex := _) (As := [(0, l1), (0, M 4 l1)]) (st := []) (st1 := fun r => [(0, r)])  (pc := 7) dX3_beginTrip_7 ml_RX3_49 (by decide) (Nat.le_of_ble_eq_true rfl) rfl (fun _ => rfl) (by decide) (by decide) (Nat.le_of_ble_eq_true rfl) rfl ?_
  refine a_iload_n (pc := 0) dX3_rowOf_0 rfl ?_
  refine a_bipush (pc := 1) dX3_rowOf_1 (by decide) (by decide +kernel) ?_
  have ho2 := h.1
  replace h := h.2
  refine a_imul (pc := 3) dX3_rowOf_3 ho2 ?_
  refine a_iload_n (pc := 4) dX3_rowOf_4 rfl ?_
  have ho3 := h.1
  replace h := h.2
  refine a_iadd (pc := 5) dX3_rowOf_5 ho3 ?_
  refine a_ireti (pc := 6) dX3_rowOf_6 rfl rfl (Nat.le_of_ble_eq_true rfl) ⟨rfl, ?_⟩
  refine a_istore_n (ls1 := [(2, 1), (0, l1), (0, l2), (0, (l1 * 6) + (M 4 l1))]) (pc := 10) dX3_beginTrip_10 (by decide) (hp1 (t := 0) rfl (by decide)) rfl ?_
  refine a_aload_n (pc := 11) dX3_beginTrip_11 (by decide) rfl ?_
  refine a_getR (y := 14) (pc := 12) dX3_beginTrip_12 fl_RX3_30 (by decide) s0_1 rfl rfl ?_
  refine a_iload_n (pc := 15) dX3_beginTrip_15 rfl ?_
  have ho4 := h.1
  replace h := h.2
  have hr5 := rw_14 ((l1 * 6) + (M 4 l1)) ho4.1 ho4.2
  refine a_aald (y := 15 + ((l1 * 6) + (M 4 l1))) (pc := 16) dX3_beginTrip_16 (by decide) s0_14 ho4.1 ho4.2 (by omega) ?_
  refine a_iconst (pc := 17) dX3_beginTrip_17 (by decide) ?_
  refine a_iload_n (pc := 18) dX3_beginTrip_18 rfl ?_
  refine a_iast (pc := 19) dX3_beginTrip_19 hr5.1 hr5.2 (by decide) (by decide) ?_
  refine a_aload_n (pc := 20) dX3_beginTrip_20 (by decide) rfl ?_
  refine a_getR (y := 63) (pc := 21) dX3_beginTrip_21 fl_RX3_33 (by decide) s0_1 rfl rfl ?_
  refine a_iload_n (pc := 24) dX3_beginTrip_24 rfl ?_
  refine a_aload_n (pc := 25) dX3_beginTrip_25 (by decide) rfl ?_
  refine a_getR (y := 2) (pc := 26) dX3_beginTrip_26 fl_RX3_15 (by decide) s0_1 rfl rfl ?_
  refine a_iload_n (pc := 29) dX3_beginTrip_29 rfl ?_
  refine a_iald (pc := 30) dX3_beginTrip_30 (by decide) s0_2 ho1.1 ho1.2 ?_
  refine a_iload_n (pc := 31) dX3_beginTrip_31 rfl ?_
  refine p_callS (As := [(0, (up2 M (15 + ((l1 * 6) + (M 4 l1))) 0 l2) 2 l1), (0, l2)]) (st := [(0, (l1 * 6) + (M 4 l1)), (2, 63)]) (st1 := fun r => [(0, r), (0, (l1 * 6) + (M 4 l1)), (2, 63)])  (pc := 32) dX3_beginTrip_32 ml_RX3_53 (by decide) (Nat.le_of_ble_eq_true rfl) rfl (fun _ => rfl) h (fun r6 M7 h => ?_)
  refine a_if_eq (tgt := 42) (pc := 35) dX3_beginTrip_35 (by decide) (fun hc8 => ?_) (fun hc8 => ?_)
  · replace h := h.1 hc8
    refine a_iconst (pc := 42) dX3_beginTrip_42 (by decide) ?_
    refine a_iast (pc := 43) dX3_beginTrip_43 (by decide) s0_63 ho4.1 ho4.2 ?_
    refine a_aload_n (pc := 44) dX3_beginTrip_44 (by decide) rfl ?_
    refine a_getR (y := 4) (pc := 45) dX3_beginTrip_45 fl_RX3_22 (by decide) s0_1 rfl rfl ?_
    refine a_iload_n (pc := 48) dX3_beginTrip_48 rfl ?_
    refine a_dup2 (pc := 49) dX3_beginTrip_49 n01 n21 ?_
    refine a_iald (pc := 50) dX3_beginTrip_50 (by decide) s0_4 ho1.1 ho1.2 ?_
    refine a_eq (y := M7 4 l1) rfl ?_
    refine a_iconst (pc := 51) dX3_beginTrip_51 (by decide) ?_
    have ho9 := h.1
    replace h := h.2
    refine a_iadd (pc := 52) dX3_beginTrip_52 ho9 ?_
    refine a_iast (pc := 53) dX3_beginTrip_53 (by decide) s0_4 ho1.1 ho1.2 ?_
    exact a_vret (pc := 54) dX3_beginTrip_54 rfl rfl (Nat.le_of_ble_eq_true rfl) ⟨rfl, h⟩
  · replace h := h.2 hc8
    refine a_iconst (pc := 38) dX3_beginTrip_38 (by decide) ?_
    refine a_goto (tgt := 43) (pc := 39) dX3_beginTrip_39 (by decide) ?_
    refine a_iast (pc := 43) dX3_beginTrip_43 (by decide) s0_63 ho4.1 ho4.2 ?_
    refine a_aload_n (pc := 44) dX3_beginTrip_44 (by decide) rfl ?_
    refine a_getR (y := 4) (pc := 45) dX3_beginTrip_45 fl_RX3_22 (by decide) s0_1 rfl rfl ?_
    refine a_iload_n (pc := 48) dX3_beginTrip_48 rfl ?_
    refine a_dup2 (pc := 49) dX3_beginTrip_49 n01 n21 ?_
    refine a_iald (pc := 50) dX3_beginTrip_50 (by decide) s0_4 ho1.1 ho1.2 ?_
    refine a_eq (y := M7 4 l1) rfl ?_
    refine a_iconst (pc := 51) dX3_beginTrip_51 (by decide) ?_
    have ho10 := h.1
    replace h := h.2
    refine a_iadd (pc := 52) dX3_beginTrip_52 ho10 ?_
    refine a_iast (pc := 53) dX3_beginTrip_53 (by decide) s0_4 ho1.1 ho1.2 ?_
    exact a_vret (pc := 54) dX3_beginTrip_54 rfl rfl (Nat.le_of_ble_eq_true rfl) ⟨rfl, h⟩
theorem E_Net_beginTrip {l1 l2 : Int} {M : Mem} {Q : Int → Mem → Prop} (h : AW mX3_beginTrip 0 [(2, 1), (0, l1), (0, l2), (9, 0)] M Q) : Calls mX3_beginTrip [(2, 1), (0, l1), (0, l2)] S0 M Q := calls_of (by decide) (by decide) (Nat.le_of_ble_eq_true rfl) rfl h
set_option maxRecDepth 100000 in
set_option maxHeartbeats 4000000 in
theorem B_Route_spellInto_0 {M : Mem} {Q : Int → Mem → Prop} (h : (-2147483648 ≤ (M 246 3) - 1 ∧ (M 246 3) - 1 ≤ 2147483647) ∧ AW mX5_spellInto 12 [(2, 246), (2, 265), (0, (M 246 3) - 1), (9, 0)] (up2 M 265 1 0) Q) : AW mX5_spellInto 0 [(2, 246), (2, 265), (9, 0), (9, 0)] M Q := by
  refine a_aload_n (pc := 0) dX5_spellInto_0 (by decide) rfl ?_
  refine a_iconst (pc := 1) dX5_spellInto_1 (by decide) ?_
  refine a_putI (y := 1) (pc := 2) dX5_spellInto_2 fl_RX5_101 (by decide) s0_265 rfl rfl (tyX7_ok 1 (by decide)) rfl ?_
  refine a_aload_n (pc := 5) dX5_spellInto_5 (by decide) rfl ?_
  refine a_getI (y := 3) (pc := 6) dX5_spellInto_6 fl_RX5_24 (by decide) s0_246 (Or.inl rfl) rfl ?_
  refine a_eq (y := M 246 3) rfl ?_
  refine a_iconst (pc := 9) dX5_spellInto_9 (by decide) ?_
  have ho1 := h.1
  replace h := h.2
  refine a_isub (pc := 10) dX5_spellInto_10 ho1 ?_
  refine a_istore_n (ls1 := [(2, 246), (2, 265), (0, (M 246 3) - 1), (9, 0)]) (pc := 11) dX5_spellInto_11 (by decide) (hp1 (t := 2) rfl (by decide)) rfl ?_
  exact h
set_option maxRecDepth 100000 in
set_option maxHeartbeats 4000000 in
theorem B_Route_spellInto_12 {l2 : Int} {M : Mem} {Q : Int → Mem → Prop} (h : ((l2 < 0 → Q 0 M) ∧ (¬ (l2 < 0) → ((0 : Int) ≤ l2 ∧ l2 < 13) ∧ ((¬ (M (248 + l2) 0) = (-5) → Calls mX7_put [(2, 265), (0, 76)] S0 M (fun r5 M6 => Calls mX7_putNumber [(2, 265), (0, M6 (248 + l2) 0)] S0 M6 (fun r7 M8 => Calls mX7_put [(2, 265), (0, 46)] S0 M8 (fun r9 M10 => Calls mX7_putNumber [(2, 265), (0, M10 (248 + l2) 1)] S0 M10 (fun r11 M12 => Calls mX7_put [(2, 265), (0, 58)] S0 M12 (fun r13 M14 => Calls mX7_putNumber [(2, 265), (0, M14 (248 + l2) 2)] S0 M14 (fun r15 M16 => Calls mX7_put [(2, 265), (0, 62)] S0 M16 (fun r17 M18 => Calls mX7_putNumber [(2, 265), (0, M18 (248 + l2) 3)] S0 M18 (fun r19 M20 => ((l2 ≤ 0 → (-2147483648 ≤ l2 + (-1) ∧ l2 + (-1) ≤ 2147483647) ∧ AW mX5_spellInto 12 [(2, 246), (2, 265), (0, l2 + (-1)), (9, 0)] M20 Q) ∧ (¬ (l2 ≤ 0) → Calls mX7_put [(2, 265), (0, 32)] S0 M20 (fun r23 M24 => (-2147483648 ≤ l2 + (-1) ∧ l2 + (-1) ≤ 2147483647) ∧ AW mX5_spellInto 12 [(2, 246), (2, 265), (0, l2 + (-1)), (9, 0)] M24 Q)))))))))))) ∧ ((M (248 + l2) 0) = (-5) → Calls mX7_put [(2, 265), (0, 87)] S0 M (fun r26 M27 => Calls mX7_put [(2, 265), (0, 58)] S0 M27 (fun r28 M29 => Calls mX7_putNumber [(2, 265), (0, M29 (248 + l2) 2)] S0 M29 (fun r30 M31 => Calls mX7_put [(2, 265), (0, 62)] S0 M31 (fun r32 M33 => Calls mX7_putNumber [(2, 265), (0, M33 (248 + l2) 3)] S0 M33 (fun r34 M35 => ((l2 ≤ 0 → (-2147483648 ≤ l2 + (-1) ∧ l2 + (-1) ≤ 2147483647) ∧ AW mX5_spellInto 12 [(2, 246), (2, 265), (0, l2 + (-1)), (9, 0)] M35 Q) ∧ (¬ (l2 ≤ 0) → Calls mX7_put [(2, 265), (0, 32)] S0 M35 (fun r38 M39 => (-2147483648 ≤ l2 + (-1) ∧ l2 + (-1) ≤ 2147483647) ∧ AW mX5_spellInto 12 [(2, 246), (2, 265), (0, l2 + (-1)), (9, 0)] M39 Q))))))))))))) : AW mX5_spellInto 12 [(2, 246), (2, 265), (0, l2), (9, 0)] M Q := by
  refine a_iload_n (pc := 12) dX5_spellInto_12 rfl ?_
  refine a_if_lt (tgt := 108) (pc := 13) dX5_spellInto_13 (by decide) (fun hc1 => ?_) (fun hc1 => ?_)
  · replace h := h.1 hc1
    exact a_vret (pc := 108) dX5_spellInto_108 rfl rfl (Nat.le_of_ble_eq_true rfl) ⟨rfl, h⟩
  · replace h := h.2 hc1
    refine a_aload_n (pc := 16) dX5_spellInto_16 (by decide) rfl ?_
    refine a_getR (y := 247) (pc := 17) dX5_spellInto_17 fl_RX5_21 (by decide) s0_246 rfl rfl ?_
    refine a_iload_n (pc := 20) dX5_spellInto_20 rfl ?_
    have ho2 := h.1
    replace h := h.2
    have hr3 := rw_247 l2 ho2.1 ho2.2
    refine a_aald (y := 248 + l2) (pc := 21) dX5_spellInto_21 (by decide) s0_247 ho2.1 ho2.2 (by omega) ?_
    refine a_astore_n (ls1 := [(2, 246), (2, 265), (0, l2), (2, 248 + l2)]) (pc := 22) dX5_spellInto_22 hr3.1 (by decide) (hp1 (t := 0) rfl (by decide)) rfl ?_
    refine a_aload_n (pc := 23) dX5_spellInto_23 hr3.1 rfl ?_
    refine a_iconst (pc := 24) dX5_spellInto_24 (by decide) ?_
    refine a_iald (pc := 25) dX5_spellInto_25 hr3.1 hr3.2 (by decide) (by decide) ?_
    refine a_bipush (pc := 26) dX5_spellInto_26 (by decide) (by decide +kernel) ?_
    refine a_icmp_ne (tgt := 40) (pc := 28) dX5_spellInto_28 (by decide) (fun hc4 => ?_) (fun hc4 => ?_)
    · replace h := h.1 hc4
      refine a_aload_n (pc := 40) dX5_spellInto_40 (by decide) rfl ?_
      refine a_bipush (pc := 41) dX5_spellInto_41 (by decide) (by decide +kernel) ?_
      refine p_callV (As := [(0, 76)]) (st := []) (st1 := fun r => [])  (pc := 43) dX5_spellInto_43 ml_RX5_106 (by decide) s0_265 rfl (by decide) (Nat.le_of_ble_eq_true rfl) rfl (fun _ => rfl) h (fun r5 M6 h => ?_)
      refine a_aload_n (pc := 46) dX5_spellInto_46 (by decide) rfl ?_
      refine a_aload_n (pc := 47) dX5_spellInto_47 hr3.1 rfl ?_
      refine a_iconst (pc := 48) dX5_spellInto_48 (by decide) ?_
      refine a_iald (pc := 49) dX5_spellInto_49 hr3.1 hr3.2 (by decide) (by decide) ?_
      refine p_callV (As := [(0, M6 (248 + l2) 0)]) (st := []) (st1 := fun r => [])  (pc := 50) dX5_spellInto_50 ml_RX5_110 (by decide) s0_265 rfl (by decide) (Nat.le_of_ble_eq_true rfl) rfl (fun _ => rfl) h (fun r7 M8 h => ?_)
      refine a_aload_n (pc := 53) dX5_spellInto_53 (by decide) rfl ?_
      refine a_bipush (pc := 54) dX5_spellInto_54 (by decide) (by decide +kernel) ?_
      refine p_callV (As := [(0, 46)]) (st := []) (st1 := fun r => [])  (pc := 56) dX5_spellInto_56 ml_RX5_106 (by decide) s0_265 rfl (by decide) (Nat.le_of_ble_eq_true rfl) rfl (fun _ => rfl) h (fun r9 M10 h => ?_)
      refine a_aload_n (pc := 59) dX5_spellInto_59 (by decide) rfl ?_
      refine a_aload_n (pc := 60) dX5_spellInto_60 hr3.1 rfl ?_
      refine a_iconst (pc := 61) dX5_spellInto_61 (by decide) ?_
      refine a_iald (pc := 62) dX5_spellInto_62 hr3.1 hr3.2 (by decide) (by decide) ?_
      refine p_callV (As := [(0, M10 (248 + l2) 1)]) (st := []) (st1 := fun r => [])  (pc := 63) dX5_spellInto_63 ml_RX5_110 (by decide) s0_265 rfl (by decide) (Nat.le_of_ble_eq_true rfl) rfl (fun _ => rfl) h (fun r11 M12 h => ?_)
      refine a_aload_n (pc := 66) dX5_spellInto_66 (by decide) rfl ?_
      refine a_bipush (pc := 67) dX5_spellInto_67 (by decide) (by decide +kernel) ?_
      refine p_callV (As := [(0, 58)]) (st := []) (st1 := fun r => [])  (pc := 69) dX5_spellInto_69 ml_RX5_106 (by decide) s0_265 rfl (by decide) (Nat.le_of_ble_eq_true rfl) rfl (fun _ => rfl) h (fun r13 M14 h => ?_)
      refine a_aload_n (pc := 72) dX5_spellInto_72 (by decide) rfl ?_
      refine a_aload_n (pc := 73) dX5_spellInto_73 hr3.1 rfl ?_
      refine a_iconst (pc := 74) dX5_spellInto_74 (by decide) ?_
      refine a_iald (pc := 75) dX5_spellInto_75 hr3.1 hr3.2 (by decide) (by decide) ?_
      refine p_callV (As := [(0, M14 (248 + l2) 2)]) (st := []) (st1 := fun r => [])  (pc := 76) dX5_spellInto_76 ml_RX5_110 (by decide) s0_265 rfl (by decide) (Nat.le_of_ble_eq_true rfl) rfl (fun _ => rfl) h (fun r15 M16 h => ?_)
      refine a_aload_n (pc := 79) dX5_spellInto_79 (by decide) rfl ?_
      refine a_bipush (pc := 80) dX5_spellInto_80 (by decide) (by decide +kernel) ?_
      refine p_callV (As := [(0, 62)]) (st := []) (st1 := fun r => [])  (pc := 82) dX5_spellInto_82 ml_RX5_106 (by decide) s0_265 rfl (by decide) (Nat.le_of_ble_eq_true rfl) rfl (fun _ => rfl) h (fun r17 M18 h => ?_)
      refine a_aload_n (pc := 85) dX5_spellInto_85 (by decide) rfl ?_
      refine a_aload_n (pc := 86) dX5_spellInto_86 hr3.1 rfl ?_
      refine a_iconst (pc := 87) dX5_spellInto_87 (by decide) ?_
      refine a_iald (pc := 88) dX5_spellInto_88 hr3.1 hr3.2 (by decide) (by decide) ?_
      refine p_callV (As := [(0, M18 (248 + l2) 3)]) (st := []) (st1 := fun r => [])  (pc := 89) dX5_spellInto_89 ml_RX5_110 (by decide) s0_265 rfl (by decide) (Nat.le_of_ble_eq_true rfl) rfl (fun _ => rfl) h (fun r19 M20 h => ?_)
      refine a_iload_n (pc := 92) dX5_spellInto_92 rfl ?_
      refine a_if_le (tgt := 102) (pc := 93) dX5_spellInto_93 (by decide) (fun hc21 => ?_) (fun hc21 => ?_)
      · replace h := h.1 hc21
        have ho22 := h.1
        replace h := h.2
        refine a_iinc (ls1 := [(2, 246), (2, 265), (0, l2 + (-1)), (2, 248 + l2)]) (pc := 102) dX5_spellInto_102 rfl (by decide) (hp1 (t := 2) rfl (by decide)) ho22 rfl ?_
        refine a_goto (tgt := 12) (pc := 105) dX5_spellInto_105 (by decide) ?_
        exact a_msk [true, true, true, false] rfl h
      · replace h := h.2 hc21
        refine a_aload_n (pc := 96) dX5_spellInto_96 (by decide) rfl ?_
        refine a_bipush (pc := 97) dX5_spellInto_97 (by decide) (by decide +kernel) ?_
        refine p_callV (As := [(0, 32)]) (st := []) (st1 := fun r => [])  (pc := 99) dX5_spellInto_99 ml_RX5_106 (by decide) s0_265 rfl (by decide) (Nat.le_of_ble_eq_true rfl) rfl (fun _ => rfl) h (fun r23 M24 h => ?_)
        have ho25 := h.1
        replace h := h.2
        refine a_iinc (ls1 := [(2, 246), (2, 265), (0, l2 + (-1)), (2, 248 + l2)]) (pc := 102) dX5_spellInto_102 rfl (by decide) (hp1 (t := 2) rfl (by decide)) ho25 rfl ?_
        refine a_goto (tgt := 12) (pc := 105) dX5_spellInto_105 (by decide) ?_
        exact a_msk [true, true, true, false] rfl h
    · replace h := h.2 hc4
      refine a_aload_n (pc := 31) dX5_spellInto_31 (by decide) rfl ?_
      refine a_bipush (pc := 32) dX5_spellInto_32 (by decide) (by decide +kernel) ?_
      refine p_callV (As := [(0, 87)]) (st := []) (st1 := fun r => [])  (pc := 34) dX5_spellInto_34 ml_RX5_106 (by decide) s0_265 rfl (by decide) (Nat.le_of_ble_eq_true rfl) rfl (fun _ => rfl) h (fun r26 M27 h => ?_)
      refine a_goto (tgt := 66) (pc := 37) dX5_spellInto_37 (by decide) ?_
      refine a_aload_n (pc := 66) dX5_spellInto_66 (by decide) rfl ?_
      refine a_bipush (pc := 67) dX5_spellInto_67 (by decide) (by decide +kernel) ?_
      refine p_callV (As := [(0, 58)]) (st := []) (st1 := fun r => [])  (pc := 69) dX5_spellInto_69 ml_RX5_106 (by decide) s0_265 rfl (by decide) (Nat.le_of_ble_eq_true rfl) rfl (fun _ => rfl) h (fun r28 M29 h => ?_)
      refine a_aload_n (pc := 72) dX5_spellInto_72 (by decide) rfl ?_
      refine a_aload_n (pc := 73) dX5_spellInto_73 hr3.1 rfl ?_
      refine a_iconst (pc := 74) dX5_spellInto_74 (by decide) ?_
      refine a_iald (pc := 75) dX5_spellInto_75 hr3.1 hr3.2 (by decide) (by decide) ?_
      refine p_callV (As := [(0, M29 (248 + l2) 2)]) (st := []) (st1 := fun r => [])  (pc := 76) dX5_spellInto_76 ml_RX5_110 (by decide) s0_265 rfl (by decide) (Nat.le_of_ble_eq_true rfl) rfl (fun _ => rfl) h (fun r30 M31 h => ?_)
      refine a_aload_n (pc := 79) dX5_spellInto_79 (by decide) rfl ?_
      refine a_bipush (pc := 80) dX5_spellInto_80 (by decide) (by decide +kernel) ?_
      refine p_callV (As := [(0, 62)]) (st := []) (st1 := fun r => [])  (pc := 82) dX5_spellInto_82 ml_RX5_106 (by decide) s0_265 rfl (by decide) (Nat.le_of_ble_eq_true rfl) rfl (fun _ => rfl) h (fun r32 M33 h => ?_)
      refine a_aload_n (pc := 85) dX5_spellInto_85 (by decide) rfl ?_
      refine a_aload_n (pc := 86) dX5_spellInto_86 hr3.1 rfl ?_
      refine a_iconst (pc := 87) dX5_spellInto_87 (by decide) ?_
      refine a_iald (pc := 88) dX5_spellInto_88 hr3.1 hr3.2 (by decide) (by decide) ?_
      refine p_callV (As := [(0, M33 (248 + l2) 3)]) (st := []) (st1 := fun r => [])  (pc := 89) dX5_spellInto_89 ml_RX5_110 (by decide) s0_265 rfl (by decide) (Nat.le_of_ble_eq_true rfl) rfl (fun _ => rfl) h (fun r34 M35 h => ?_)
      refine a_iload_n (pc := 92) dX5_spellInto_92 rfl ?_
      refine a_if_le (tgt := 102) (pc := 93) dX5_spellInto_93 (by decide) (fun hc36 => ?_) (fun hc36 => ?_)
      · replace h := h.1 hc36
        have ho37 := h.1
        replace h := h.2
        refine a_iinc (ls1 := [(2, 246), (2, 265), (0, l2 + (-1)), (2, 248 + l2)]) (pc := 102) dX5_spellInto_102 rfl (by decide) (hp1 (t := 2) rfl (by decide)) ho37 rfl ?_
        refine a_goto (tgt := 12) (pc := 105) dX5_spellInto_105 (by decide) ?_
        exact a_msk [true, true, true, false] rfl h
      · replace h := h.2 hc36
        refine a_aload_n (pc := 96) dX5_spellInto_96 (by decide) rfl ?_
        refine a_bipush (pc := 97) dX5_spellInto_97 (by decide) (by decide +kernel) ?_
        refine p_callV (As := [(0, 32)]) (st := []) (st1 := fun r => [])  (pc := 99) dX5_spellInto_99 ml_RX5_106 (by decide) s0_265 rfl (by decide) (Nat.le_of_ble_eq_true rfl) rfl (fun _ => rfl) h (fun r38 M39 h => ?_)
        have ho40 := h.1
        replace h := h.2
        refine a_iinc (ls1 := [(2, 246), (2, 265), (0, l2 + (-1)), (2, 248 + l2)]) (pc := 102) dX5_spellInto_102 rfl (by decide) (hp1 (t := 2) rfl (by decide)) ho40 rfl ?_
        refine a_goto (tgt := 12) (pc := 105) dX5_spellInto_105 (by decide) ?_
        exact a_msk [true, true, true, false] rfl h
theorem E_Route_spellInto {M : Mem} {Q : Int → Mem → Prop} (h : AW mX5_spellInto 0 [(2, 246), (2, 265), (9, 0), (9, 0)] M Q) : Calls mX5_spellInto [(2, 246), (2, 265)] S0 M Q := calls_of (by decide) (by decide) (Nat.le_of_ble_eq_true rfl) rfl h
set_option maxRecDepth 100000 in
set_option maxHeartbeats 4000000 in
theorem B_Net_countRunning_0 {l1 : Int} {M : Mem} {Q : Int → Mem → Prop} (h : AW mX3_countRunning 4 [(2, 1), (0, l1), (0, 0), (0, 0)] M Q) : AW mX3_countRunning 0 [(2, 1), (0, l1), (9, 0), (9, 0)] M Q := by
  refine a_iconst (pc := 0) dX3_countRunning_0 (by decide) ?_
  refine a_istore_n (ls1 := [(2, 1), (0, l1), (0, 0), (9, 0)]) (pc := 1) dX3_countRunning_1 (by decide) (hp1 (t := 0) rfl (by decide)) rfl ?_
  refine a_iconst (pc := 2) dX3_countRunning_2 (by decide) ?_
  refine a_istore_n (ls1 := [(2, 1), (0, l1), (0, 0), (0, 0)]) (pc := 3) dX3_countRunning_3 (by decide) (hp1 (t := 0) rfl (by decide)) rfl ?_
  exact h
set_option maxRecDepth 100000 in
set_option maxHeartbeats 4000000 in
theorem B_Net_countRunning_4 {l1 l2 l3 : Int} {M : Mem} {Q : Int → Mem → Prop} (h : ((0 : Int) ≤ l1 ∧ l1 < 8) ∧ (((M 4 l1) ≤ l3 → Q l2 M) ∧ (¬ ((M 4 l1) ≤ l3) → (-2147483648 ≤ l1 * 6 ∧ l1 * 6 ≤ 2147483647) ∧ (-2147483648 ≤ (l1 * 6) + l3 ∧ (l1 * 6) + l3 ≤ 2147483647) ∧ ((0 : Int) ≤ (l1 * 6) + l3 ∧ (l1 * 6) + l3 < 48) ∧ ((¬ (M 63 ((l1 * 6) + l3)) = 1 → (-2147483648 ≤ l3 + 1 ∧ l3 + 1 ≤ 2147483647) ∧ AW mX3_countRunning 4 [(2, 1), (0, l1), (0, l2), (0, l3 + 1)] M Q) ∧ ((M 63 ((l1 * 6) + l3)) = 1 → (-2147483648 ≤ l2 + 1 ∧ l2 + 1 ≤ 2147483647) ∧ (-2147483648 ≤ l3 + 1 ∧ l3 + 1 ≤ 2147483647) ∧ AW mX3_countRunning 4 [(2, 1), (0, l1), (0, l2 + 1), (0, l3 + 1)] M Q))))) : AW mX3_countRunning 4 [(2, 1), (0, l1), (0, l2), (0, l3)] M Q := by
  refine a_iload_n (pc := 4) dX3_countRunning_4 rfl ?_
  refine a_aload_n (pc := 5) dX3_countRunning_5 (by decide) rfl ?_
  refine a_getR (y := 4) (pc := 6) dX3_countRunning_6 fl_RX3_22 (by decide) s0_1 rfl rfl ?_
  refine a_iload_n (pc := 9) dX3_countRunning_9 rfl ?_
  have ho1 := h.1
  replace h := h.2
  refine a_iald (pc := 10) dX3_countRunning_10 (by decide) s0_4 ho1.1 ho1.2 ?_
  refine a_icmp_ge (tgt := 32) (pc := 11) dX3_countRunning_11 (by decide) (fun hc2 => ?_) (fun hc2 => ?_)
  · replace h := h.1 hc2
    refine a_iload_n (pc := 32) dX3_countRunning_32 rfl ?_
    exact a_ireti (pc := 33) dX3_countRunning_33 rfl rfl (Nat.le_of_ble_eq_true rfl) ⟨rfl, h⟩
  · replace h := h.2 hc2
    refine a_aload_n (pc := 14) dX3_countRunning_14 (by decide) rfl ?_
    refine a_iload_n (pc := 15) dX3_countRunning_15 rfl ?_
    refine a_iload_n (pc := 16) dX3_countRunning_16 rfl ?_
    refine p_inlV (Ex := _) (As := [(0, l1), (0, l3)]) (st := []) (st1 := fun r => [(0, r)])  (pc := 17) dX3_countRunning_17 ml_RX3_59 (by decide) s0_1 rfl (by decide) (Nat.le_of_ble_eq_true rfl) rfl (fun _ => rfl) (by decide) (by decide) (Nat.le_of_ble_eq_true rfl) rfl ?_
    refine a_aload_n (pc := 0) dX3_isRunning_0 (by decide) rfl ?_
    refine a_getR (y := 63) (pc := 1) dX3_isRunning_1 fl_RX3_33 (by decide) s0_1 rfl rfl ?_
    refine a_iload_n (pc := 4) dX3_isRunning_4 rfl ?_
    refine a_iload_n (pc := 5) dX3_isRunning_5 rfl ?_
    refine p_inlS (Ex := _) (As := [(0, l1), (0, l3)]) (st := [(2, 63)]) (st1 := fun r => [(0, r), (2, 63)])  (pc := 6) dX3_isRunning_6 ml_RX3_49 (by decide) (Nat.le_of_ble_eq_true rfl) rfl (fun _ => rfl) (by decide) (by decide) (Nat.le_of_ble_eq_true rfl) rfl ?_
    refine a_iload_n (pc := 0) dX3_rowOf_0 rfl ?_
    refine a_bipush (pc := 1) dX3_rowOf_1 (by decide) (by decide +kernel) ?_
    have ho3 := h.1
    replace h := h.2
    refine a_imul (pc := 3) dX3_rowOf_3 ho3 ?_
    refine a_iload_n (pc := 4) dX3_rowOf_4 rfl ?_
    have ho4 := h.1
    replace h := h.2
    refine a_iadd (pc := 5) dX3_rowOf_5 ho4 ?_
    refine a_ireti (pc := 6) dX3_rowOf_6 rfl rfl (Nat.le_of_ble_eq_true rfl) ⟨rfl, ?_⟩
    have ho5 := h.1
    replace h := h.2
    refine a_iald (pc := 9) dX3_isRunning_9 (by decide) s0_63 ho5.1 ho5.2 ?_
    refine a_iconst (pc := 10) dX3_isRunning_10 (by decide) ?_
    refine a_icmp_ne (tgt := 18) (pc := 11) dX3_isRunning_11 (by decide) (fun hc6 => ?_) (fun hc6 => ?_)
    · replace h := h.1 hc6
      refine a_iconst (pc := 18) dX3_isRunning_18 (by decide) ?_
      refine a_iretz (pc := 19) dX3_isRunning_19 rfl rfl (Nat.le_of_ble_eq_true rfl) (by decide) ⟨rfl, ?_⟩
      refine a_if_eq (tgt := 26) (pc := 20) dX3_countRunning_20 (by decide) (fun _ => ?_) (fun hc => absurd (by decide) hc)
      have ho7 := h.1
      replace h := h.2
      refine a_iinc (ls1 := [(2, 1), (0, l1), (0, l2), (0, l3 + 1)]) (pc := 26) dX3_countRunning_26 rfl (by decide) (hp1 (t := 0) rfl (by decide)) ho7 rfl ?_
      refine a_goto (tgt := 4) (pc := 29) dX3_countRunning_29 (by decide) ?_
      exact h
    · replace h := h.2 hc6
      refine a_iconst (pc := 14) dX3_isRunning_14 (by decide) ?_
      refine a_goto (tgt := 19) (pc := 15) dX3_isRunning_15 (by decide) ?_
      refine a_iretz (pc := 19) dX3_isRunning_19 rfl rfl (Nat.le_of_ble_eq_true rfl) (by decide) ⟨rfl, ?_⟩
      refine a_if_eq (tgt := 26) (pc := 20) dX3_countRunning_20 (by decide) (fun hc => absurd hc (by decide)) (fun _ => ?_)
      have ho8 := h.1
      replace h := h.2
      refine a_iinc (ls1 := [(2, 1), (0, l1), (0, l2 + 1), (0, l3)]) (pc := 23) dX3_countRunning_23 rfl (by decide) (hp1 (t := 0) rfl (by decide)) ho8 rfl ?_
      have ho9 := h.1
      replace h := h.2
      refine a_iinc (ls1 := [(2, 1), (0, l1), (0, l2 + 1), (0, l3 + 1)]) (pc := 26) dX3_countRunning_26 rfl (by decide) (hp1 (t := 0) rfl (by decide)) ho9 rfl ?_
      refine a_goto (tgt := 4) (pc := 29) dX3_countRunning_29 (by decide) ?_
      exact h
theorem E_Net_countRunning {l1 : Int} {M : Mem} {Q : Int → Mem → Prop} (h : AW mX3_countRunning 0 [(2, 1), (0, l1), (9, 0), (9, 0)] M Q) : Calls mX3_countRunning [(2, 1), (0, l1)] S0 M Q := calls_of (by decide) (by decide) (Nat.le_of_ble_eq_true rfl) rfl h
set_option maxRecDepth 100000 in
set_option maxHeartbeats 4000000 in
theorem B_Board_gather_0 {l1 l2 : Int} {M : Mem} {Q : Int → Mem → Prop} (h : AW mX0_gather 7 [(2, 261), (0, l1), (0, l2), (0, 0), (9, 0), (9, 0), (9, 0)] (up2 M 261 2 0) Q) : AW mX0_gather 0 [(2, 261), (0, l1), (0, l2), (9, 0), (9, 0), (9, 0), (9, 0)] M Q := by
  refine a_aload_n (pc := 0) dX0_gather_0 (by decide) rfl ?_
  refine a_iconst (pc := 1) dX0_gather_1 (by decide) ?_
  refine a_putI (y := 2) (pc := 2) dX0_gather_2 fl_RX0_19 (by decide) s0_261 rfl rfl (tyX0_ok 2 (by decide)) rfl ?_
  refine a_iconst (pc := 5) dX0_gather_5 (by decide) ?_
  refine a_istore_n (ls1 := [(2, 261), (0, l1), (0, l2), (0, 0), (9, 0), (9, 0), (9, 0)]) (pc := 6) dX0_gather_6 (by decide) (hp1 (t := 0) rfl (by decide)) rfl ?_
  exact h
set_option maxRecDepth 100000 in
set_option maxHeartbeats 4000000 in
theorem B_Board_gather_7 {l1 l2 l3 : Int} {M : Mem} {Q : Int → Mem → Prop} (h : (((M 1 0) ≤ l3 → Q 0 M) ∧ (¬ ((M 1 0) ≤ l3) → Calls mX3_placeOf [(2, 1), (0, l3), (0, l1)] S0 M (fun r2 M3 => ((r2 < 0 → (-2147483648 ≤ l3 + 1 ∧ l3 + 1 ≤ 2147483647) ∧ AW mX0_gather 7 [(2, 261), (0, l1), (0, l2), (0, l3 + 1), (9, 0), (9, 0), (9, 0)] M3 Q) ∧ (¬ (r2 < 0) → ((0 : Int) ≤ l3 ∧ l3 < 8) ∧ (-2147483648 ≤ (M3 3 l3) - 1 ∧ (M3 3 l3) - 1 ≤ 2147483647) ∧ ((((M3 3 l3) - 1) ≤ r2 → (-2147483648 ≤ l3 + 1 ∧ l3 + 1 ≤ 2147483647) ∧ AW mX0_gather 7 [(2, 261), (0, l1), (0, l2), (0, l3 + 1), (9, 0), (9, 0), (9, 0)] M3 Q) ∧ (¬ (((M3 3 l3) - 1) ≤ r2) → AW mX0_gather 45 [(2, 261), (0, l1), (0, l2), (0, l3), (0, r2), (0, 0), (9, 0)] M3 Q)))))))) : AW mX0_gather 7 [(2, 261), (0, l1), (0, l2), (0, l3), (9, 0), (9, 0), (9, 0)] M Q := by
  refine a_iload_n (pc := 7) dX0_gather_7 rfl ?_
  refine a_aload_n (pc := 8) dX0_gather_8 (by decide) rfl ?_
  refine a_getR (y := 1) (pc := 9) dX0_gather_9 fl_RX0_9 (by decide) s0_261 rfl rfl ?_
  refine a_getI (y := 0) (pc := 12) dX0_gather_12 fl_RX0_23 (by decide) s0_1 (Or.inl rfl) rfl ?_
  refine a_icmp_ge (tgt := 121) (pc := 15) dX0_gather_15 (by decide) (fun hc1 => ?_) (fun hc1 => ?_)
  · replace h := h.1 hc1
    exact a_vret (pc := 121) dX0_gather_121 rfl rfl (Nat.le_of_ble_eq_true rfl) ⟨rfl, h⟩
  · replace h := h.2 hc1
    refine a_aload_n (pc := 18) dX0_gather_18 (by decide) rfl ?_
    refine a_getR (y := 1) (pc := 19) dX0_gather_19 fl_RX0_9 (by decide) s0_261 rfl rfl ?_
    refine a_iload_n (pc := 22) dX0_gather_22 rfl ?_
    refine a_iload_n (pc := 23) dX0_gather_23 rfl ?_
    refine p_callV (As := [(0, l3), (0, l1)]) (st := []) (st1 := fun r => [(0, r)])  (pc := 24) dX0_gather_24 ml_RX0_28 (by decide) s0_1 rfl (by decide) (Nat.le_of_ble_eq_true rfl) rfl (fun _ => rfl) h (fun r2 M3 h => ?_)
    refine a_istore (ls1 := [(2, 261), (0, l1), (0, l2), (0, l3), (0, r2), (9, 0), (9, 0)]) (pc := 27) dX0_gather_27 (by decide) (hp1 (t := 0) rfl (by decide)) rfl ?_
    refine a_aload_n (pc := 29) dX0_gather_29 (by decide) rfl ?_
    refine a_iload_n (pc := 30) dX0_gather_30 rfl ?_
    refine a_iload (pc := 31) dX0_gather_31 rfl ?_
    refine p_inlV (Ex := _) (As := [(0, l3), (0, r2)]) (st := []) (st1 := fun r => [(0, r)])  (pc := 33) dX0_gather_33 ml_RX0_32 (by decide) s0_261 rfl (by decide) (Nat.le_of_ble_eq_true rfl) rfl (fun _ => rfl) (by decide) (by decide) (Nat.le_of_ble_eq_true rfl) rfl ?_
    refine a_iload_n (pc := 0) dX0_goesOn_0 rfl ?_
    refine a_if_lt (tgt := 23) (pc := 1) dX0_goesOn_1 (by decide) (fun hc4 => ?_) (fun hc4 => ?_)
    · replace h := h.1 hc4
      refine a_iconst (pc := 23) dX0_goesOn_23 (by decide) ?_
      refine a_iretz (pc := 24) dX0_goesOn_24 rfl rfl (Nat.le_of_ble_eq_true rfl) (by decide) ⟨rfl, ?_⟩
      refine a_if_ne (tgt := 42) (pc := 36) dX0_gather_36 (by decide) (fun hc => absurd rfl hc) (fun _ => ?_)
      refine a_goto (tgt := 115) (pc := 39) dX0_gather_39 (by decide) ?_
      have ho5 := h.1
      replace h := h.2
      refine a_iinc (ls1 := [(2, 261), (0, l1), (0, l2), (0, l3 + 1), (0, r2), (9, 0), (9, 0)]) (pc := 115) dX0_gather_115 rfl (by decide) (hp1 (t := 0) rfl (by decide)) ho5 rfl ?_
      refine a_goto (tgt := 7) (pc := 118) dX0_gather_118 (by decide) ?_
      exact a_msk [true, true, true, true, false, true, true] rfl h
    · replace h := h.2 hc4
      refine a_iload_n (pc := 4) dX0_goesOn_4 rfl ?_
      refine a_aload_n (pc := 5) dX0_goesOn_5 (by decide) rfl ?_
      refine a_getR (y := 1) (pc := 6) dX0_goesOn_6 fl_RX0_9 (by decide) s0_261 rfl rfl ?_
      refine a_getR (y := 3) (pc := 9) dX0_goesOn_9 fl_RX0_50 (by decide) s0_1 rfl rfl ?_
      refine a_iload_n (pc := 12) dX0_goesOn_12 rfl ?_
      have ho6 := h.1
      replace h := h.2
      refine a_iald (pc := 13) dX0_goesOn_13 (by decide) s0_3 ho6.1 ho6.2 ?_
      refine a_iconst (pc := 14) dX0_goesOn_14 (by decide) ?_
      have ho7 := h.1
      replace h := h.2
      refine a_isub (pc := 15) dX0_goesOn_15 ho7 ?_
      refine a_icmp_ge (tgt := 23) (pc := 16) dX0_goesOn_16 (by decide) (fun hc8 => ?_) (fun hc8 => ?_)
      · replace h := h.1 hc8
        refine a_iconst (pc := 23) dX0_goesOn_23 (by decide) ?_
        refine a_iretz (pc := 24) dX0_goesOn_24 rfl rfl (Nat.le_of_ble_eq_true rfl) (by decide) ⟨rfl, ?_⟩
        refine a_if_ne (tgt := 42) (pc := 36) dX0_gather_36 (by decide) (fun hc => absurd rfl hc) (fun _ => ?_)
        refine a_goto (tgt := 115) (pc := 39) dX0_gather_39 (by decide) ?_
        have ho9 := h.1
        replace h := h.2
        refine a_iinc (ls1 := [(2, 261), (0, l1), (0, l2), (0, l3 + 1), (0, r2), (9, 0), (9, 0)]) (pc := 115) dX0_gather_115 rfl (by decide) (hp1 (t := 0) rfl (by decide)) ho9 rfl ?_
        refine a_goto (tgt := 7) (pc := 118) dX0_gather_118 (by decide) ?_
        exact a_msk [true, true, true, true, false, true, true] rfl h
      · replace h := h.2 hc8
        refine a_iconst (pc := 19) dX0_goesOn_19 (by decide) ?_
        refine a_goto (tgt := 24) (pc := 20) dX0_goesOn_20 (by decide) ?_
        refine a_iretz (pc := 24) dX0_goesOn_24 rfl rfl (Nat.le_of_ble_eq_true rfl) (by decide) ⟨rfl, ?_⟩
        refine a_if_ne (tgt := 42) (pc := 36) dX0_gather_36 (by decide) (fun _ => ?_) (fun hc => absurd hc (by decide))
        refine a_iconst (pc := 42) dX0_gather_42 (by decide) ?_
        refine a_istore (ls1 := [(2, 261), (0, l1), (0, l2), (0, l3), (0, r2), (0, 0), (9, 0)]) (pc := 43) dX0_gather_43 (by decide) (hp1 (t := 0) rfl (by decide)) rfl ?_
        exact h
set_option maxRecDepth 100000 in
set_option maxHeartbeats 4000000 in
theorem B_Board_gather_45 {l1 l2 l3 l4 l5 : Int} {M : Mem} {Q : Int → Mem → Prop} (h : ((0 : Int) ≤ l3 ∧ l3 < 8) ∧ (((M 4 l3) ≤ l5 → (-2147483648 ≤ l3 + 1 ∧ l3 + 1 ≤ 2147483647) ∧ AW mX0_gather 7 [(2, 261), (0, l1), (0, l2), (0, l3 + 1), (9, 0), (9, 0), (9, 0)] M Q) ∧ (¬ ((M 4 l3) ≤ l5) → (-2147483648 ≤ l3 * 6 ∧ l3 * 6 ≤ 2147483647) ∧ (-2147483648 ≤ (l3 * 6) + l5 ∧ (l3 * 6) + l5 ≤ 2147483647) ∧ ((0 : Int) ≤ (l3 * 6) + l5 ∧ (l3 * 6) + l5 < 48) ∧ ((0 : Int) ≤ l4 ∧ l4 < 6) ∧ ((¬ (M 63 ((l3 * 6) + l5)) = 1 → (-2147483648 ≤ l5 + 1 ∧ l5 + 1 ≤ 2147483647) ∧ AW mX0_gather 45 [(2, 261), (0, l1), (0, l2), (0, l3), (0, l4), (0, l5 + 1), (9, 0)] M Q) ∧ ((M 63 ((l3 * 6) + l5)) = 1 → (((M (15 + ((l3 * 6) + l5)) l4) < l2 → (-2147483648 ≤ l5 + 1 ∧ l5 + 1 ≤ 2147483647) ∧ AW mX0_gather 45 [(2, 261), (0, l1), (0, l2), (0, l3), (0, l4), (0, l5 + 1), (9, 0)] M Q) ∧ (¬ ((M (15 + ((l3 * 6) + l5)) l4) < l2) → (-2147483648 ≤ (M (15 + ((l3 * 6) + l5)) l4) * 100 ∧ (M (15 + ((l3 * 6) + l5)) l4) * 100 ≤ 2147483647) ∧ (-2147483648 ≤ l3 * 10 ∧ l3 * 10 ≤ 2147483647) ∧ (-2147483648 ≤ ((M (15 + ((l3 * 6) + l5)) l4) * 100) + (l3 * 10) ∧ ((M (15 + ((l3 * 6) + l5)) l4) * 100) + (l3 * 10) ≤ 2147483647) ∧ (-2147483648 ≤ (((M (15 + ((l3 * 6) + l5)) l4) * 100) + (l3 * 10)) + l5 ∧ (((M (15 + ((l3 * 6) + l5)) l4) * 100) + (l3 * 10)) + l5 ≤ 2147483647) ∧ Calls mX0_insert [(2, 261), (0, (((M (15 + ((l3 * 6) + l5)) l4) * 100) + (l3 * 10)) + l5)] S0 M (fun r17 M18 => (-2147483648 ≤ l5 + 1 ∧ l5 + 1 ≤ 2147483647) ∧ AW mX0_gather 45 [(2, 261), (0, l1), (0, l2), (0, l3), (0, l4), (0, l5 + 1), (9, 0)] M18 Q)))))))) : AW mX0_gather 45 [(2, 261), (0, l1), (0, l2), (0, l3), (0, l4), (0, l5), (9, 0)] M Q := by
  refine a_iload (pc := 45) dX0_gather_45 rfl ?_
  refine a_aload_n (pc := 47) dX0_gather_47 (by decide) rfl ?_
  refine a_getR (y := 1) (pc := 48) dX0_gather_48 fl_RX0_9 (by decide) s0_261 rfl rfl ?_
  refine a_getR (y := 4) (pc := 51) dX0_gather_51 fl_RX0_36 (by decide) s0_1 rfl rfl ?_
  refine a_iload_n (pc := 54) dX0_gather_54 rfl ?_
  have ho1 := h.1
  replace h := h.2
  refine a_iald (pc := 55) dX0_gather_55 (by decide) s0_4 ho1.1 ho1.2 ?_
  refine a_icmp_ge (tgt := 115) (pc := 56) dX0_gather_56 (by decide) (fun hc2 => ?_) (fun hc2 => ?_)
  · replace h := h.1 hc2
    have ho3 := h.1
    replace h := h.2
    refine a_iinc (ls1 := [(2, 261), (0, l1), (0, l2), (0, l3 + 1), (0, l4), (0, l5), (9, 0)]) (pc := 115) dX0_gather_115 rfl (by decide) (hp1 (t := 0) rfl (by decide)) ho3 rfl ?_
    refine a_goto (tgt := 7) (pc := 118) dX0_gather_118 (by decide) ?_
    exact a_msk [true, true, true, true, false, false, true] rfl h
  · replace h := h.2 hc2
    refine a_aload_n (pc := 59) dX0_gather_59 (by decide) rfl ?_
    refine a_getR (y := 1) (pc := 60) dX0_gather_60 fl_RX0_9 (by decide) s0_261 rfl rfl ?_
    refine a_iload_n (pc := 63) dX0_gather_63 rfl ?_
    refine a_iload (pc := 64) dX0_gather_64 rfl ?_
    refine a_iload (pc := 66) dX0_gather_66 rfl ?_
    refine p_inlV (Ex := _) (As := [(0, l3), (0, l5), (0, l4)]) (st := []) (st1 := fun r => [(0, r)])  (pc := 68) dX0_gather_68 ml_RX0_39 (by decide) s0_1 rfl (by decide) (Nat.le_of_ble_eq_true rfl) rfl (fun _ => rfl) (by decide) (by decide) (Nat.le_of_ble_eq_true rfl) rfl ?_
    refine a_aload_n (pc := 0) dX3_minuteOf_0 (by decide) rfl ?_
    refine a_getR (y := 14) (pc := 1) dX3_minuteOf_1 fl_RX3_30 (by decide) s0_1 rfl rfl ?_
    refine a_iload_n (pc := 4) dX3_minuteOf_4 rfl ?_
    refine a_iload_n (pc := 5) dX3_minuteOf_5 rfl ?_
    refine p_inlS (Ex := _) (As := [(0, l3), (0, l5)]) (st := [(2, 14)]) (st1 := fun r => [(0, r), (2, 14)])  (pc := 6) dX3_minuteOf_6 ml_RX3_49 (by decide) (Nat.le_of_ble_eq_true rfl) rfl (fun _ => rfl) (by decide) (by decide) (Nat.le_of_ble_eq_true rfl) rfl ?_
    refine a_iload_n (pc := 0) dX3_rowOf_0 rfl ?_
    refine a_bipush (pc := 1) dX3_rowOf_1 (by decide) (by decide +kernel) ?_
    have ho4 := h.1
    replace h := h.2
    refine a_imul (pc := 3) dX3_rowOf_3 ho4 ?_
    refine a_iload_n (pc := 4) dX3_rowOf_4 rfl ?_
    have ho5 := h.1
    replace h := h.2
    refine a_iadd (pc := 5) dX3_rowOf_5 ho5 ?_
    refine a_ireti (pc := 6) dX3_rowOf_6 rfl rfl (Nat.le_of_ble_eq_true rfl) ⟨rfl, ?_⟩
    have ho6 := h.1
    replace h := h.2
    have hr7 := rw_14 ((l3 * 6) + l5) ho6.1 ho6.2
    refine a_aald (y := 15 + ((l3 * 6) + l5)) (pc := 9) dX3_minuteOf_9 (by decide) s0_14 ho6.1 ho6.2 (by omega) ?_
    refine a_iload_n (pc := 10) dX3_minuteOf_10 rfl ?_
    have ho8 := h.1
    replace h := h.2
    refine a_iald (pc := 11) dX3_minuteOf_11 hr7.1 hr7.2 ho8.1 ho8.2 ?_
    refine a_ireti (pc := 12) dX3_minuteOf_12 rfl rfl (Nat.le_of_ble_eq_true rfl) ⟨rfl, ?_⟩
    refine a_istore (ls1 := [(2, 261), (0, l1), (0, l2), (0, l3), (0, l4), (0, l5), (0, M (15 + ((l3 * 6) + l5)) l4)]) (pc := 71) dX0_gather_71 (by decide) (hp1 (t := 0) rfl (by decide)) rfl ?_
    refine a_aload_n (pc := 73) dX0_gather_73 (by decide) rfl ?_
    refine a_getR (y := 1) (pc := 74) dX0_gather_74 fl_RX0_9 (by decide) s0_261 rfl rfl ?_
    refine a_iload_n (pc := 77) dX0_gather_77 rfl ?_
    refine a_iload (pc := 78) dX0_gather_78 rfl ?_
    refine p_inlV (Ex := _) (As := [(0, l3), (0, l5)]) (st := []) (st1 := fun r => [(0, r)])  (pc := 80) dX0_gather_80 ml_RX0_43 (by decide) s0_1 rfl (by decide) (Nat.le_of_ble_eq_true rfl) rfl (fun _ => rfl) (by decide) (by decide) (Nat.le_of_ble_eq_true rfl) rfl ?_
    refine a_aload_n (pc := 0) dX3_isRunning_0 (by decide) rfl ?_
    refine a_getR (y := 63) (pc := 1) dX3_isRunning_1 fl_RX3_33 (by decide) s0_1 rfl rfl ?_
    refine a_iload_n (pc := 4) dX3_isRunning_4 rfl ?_
    refine a_iload_n (pc := 5) dX3_isRunning_5 rfl ?_
    refine p_inlS (Ex := _) (As := [(0, l3), (0, l5)]) (st := [(2, 63)]) (st1 := fun r => [(0, r), (2, 63)])  (pc := 6) dX3_isRunning_6 ml_RX3_49 (by decide) (Nat.le_of_ble_eq_true rfl) rfl (fun _ => rfl) (by decide) (by decide) (Nat.le_of_ble_eq_true rfl) rfl ?_
    refine a_iload_n (pc := 0) dX3_rowOf_0 rfl ?_
    refine a_bipush (pc := 1) dX3_rowOf_1 (by decide) (by decide +kernel) ?_
    refine a_imul (pc := 3) dX3_rowOf_3 ho4 ?_
    refine a_iload_n (pc := 4) dX3_rowOf_4 rfl ?_
    refine a_iadd (pc := 5) dX3_rowOf_5 ho5 ?_
    refine a_ireti (pc := 6) dX3_rowOf_6 rfl rfl (Nat.le_of_ble_eq_true rfl) ⟨rfl, ?_⟩
    refine a_iald (pc := 9) dX3_isRunning_9 (by decide) s0_63 ho6.1 ho6.2 ?_
    refine a_iconst (pc := 10) dX3_isRunning_10 (by decide) ?_
    refine a_icmp_ne (tgt := 18) (pc := 11) dX3_isRunning_11 (by decide) (fun hc9 => ?_) (fun hc9 => ?_)
    · replace h := h.1 hc9
      refine a_iconst (pc := 18) dX3_isRunning_18 (by decide) ?_
      refine a_iretz (pc := 19) dX3_isRunning_19 rfl rfl (Nat.le_of_ble_eq_true rfl) (by decide) ⟨rfl, ?_⟩
      refine a_if_eq (tgt := 109) (pc := 83) dX0_gather_83 (by decide) (fun _ => ?_) (fun hc => absurd (by decide) hc)
      have ho10 := h.1
      replace h := h.2
      refine a_iinc (ls1 := [(2, 261), (0, l1), (0, l2), (0, l3), (0, l4), (0, l5 + 1), (0, M (15 + ((l3 * 6) + l5)) l4)]) (pc := 109) dX0_gather_109 rfl (by decide) (hp1 (t := 0) rfl (by decide)) ho10 rfl ?_
      refine a_goto (tgt := 45) (pc := 112) dX0_gather_112 (by decide) ?_
      exact a_msk [true, true, true, true, true, true, false] rfl h
    · replace h := h.2 hc9
      refine a_iconst (pc := 14) dX3_isRunning_14 (by decide) ?_
      refine a_goto (tgt := 19) (pc := 15) dX3_isRunning_15 (by decide) ?_
      refine a_iretz (pc := 19) dX3_isRunning_19 rfl rfl (Nat.le_of_ble_eq_true rfl) (by decide) ⟨rfl, ?_⟩
      refine a_if_eq (tgt := 109) (pc := 83) dX0_gather_83 (by decide) (fun hc => absurd hc (by decide)) (fun _ => ?_)
      refine a_iload (pc := 86) dX0_gather_86 rfl ?_
      refine a_iload_n (pc := 88) dX0_gather_88 rfl ?_
      refine a_icmp_lt (tgt := 109) (pc := 89) dX0_gather_89 (by decide) (fun hc11 => ?_) (fun hc11 => ?_)
      · replace h := h.1 hc11
        have ho12 := h.1
        replace h := h.2
        refine a_iinc (ls1 := [(2, 261), (0, l1), (0, l2), (0, l3), (0, l4), (0, l5 + 1), (0, M (15 + ((l3 * 6) + l5)) l4)]) (pc := 109) dX0_gather_109 rfl (by decide) (hp1 (t := 0) rfl (by decide)) ho12 rfl ?_
        refine a_goto (tgt := 45) (pc := 112) dX0_gather_112 (by decide) ?_
        exact a_msk [true, true, true, true, true, true, false] rfl h
      · replace h := h.2 hc11
        refine a_aload_n (pc := 92) dX0_gather_92 (by decide) rfl ?_
        refine a_iload (pc := 93) dX0_gather_93 rfl ?_
        refine a_bipush (pc := 95) dX0_gather_95 (by decide) (by decide +kernel) ?_
        have ho13 := h.1
        replace h := h.2
        refine a_imul (pc := 97) dX0_gather_97 ho13 ?_
        refine a_iload_n (pc := 98) dX0_gather_98 rfl ?_
        refine a_bipush (pc := 99) dX0_gather_99 (by decide) (by decide +kernel) ?_
        have ho14 := h.1
        replace h := h.2
        refine a_imul (pc := 101) dX0_gather_101 ho14 ?_
        have ho15 := h.1
        replace h := h.2
        refine a_iadd (pc := 102) dX0_gather_102 ho15 ?_
        refine a_iload (pc := 103) dX0_gather_103 rfl ?_
        have ho16 := h.1
        replace h := h.2
        refine a_iadd (pc := 105) dX0_gather_105 ho16 ?_
        refine p_callV (As := [(0, (((M (15 + ((l3 * 6) + l5)) l4) * 100) + (l3 * 10)) + l5)]) (st := []) (st1 := fun r => [])  (pc := 106) dX0_gather_106 ml_RX0_46 (by decide) s0_261 rfl (by decide) (Nat.le_of_ble_eq_true rfl) rfl (fun _ => rfl) h (fun r17 M18 h => ?_)
        have ho19 := h.1
        replace h := h.2
        refine a_iinc (ls1 := [(2, 261), (0, l1), (0, l2), (0, l3), (0, l4), (0, l5 + 1), (0, M (15 + ((l3 * 6) + l5)) l4)]) (pc := 109) dX0_gather_109 rfl (by decide) (hp1 (t := 0) rfl (by decide)) ho19 rfl ?_
        refine a_goto (tgt := 45) (pc := 112) dX0_gather_112 (by decide) ?_
        exact a_msk [true, true, true, true, true, true, false] rfl h
theorem E_Board_gather {l1 l2 : Int} {M : Mem} {Q : Int → Mem → Prop} (h : AW mX0_gather 0 [(2, 261), (0, l1), (0, l2), (9, 0), (9, 0), (9, 0), (9, 0)] M Q) : Calls mX0_gather [(2, 261), (0, l1), (0, l2)] S0 M Q := calls_of (by decide) (by decide) (Nat.le_of_ble_eq_true rfl) rfl h
set_option maxRecDepth 100000 in
set_option maxHeartbeats 4000000 in
theorem B_Board_leastMissOf_0 {l1 l2 l3 : Int} {M : Mem} {Q : Int → Mem → Prop} (h : AW mX0_leastMissOf 8 [(2, 261), (0, l1), (0, l2), (0, l3), (0, 10000), (0, 0), (9, 0), (9, 0), (9, 0)] M Q) : AW mX0_leastMissOf 0 [(2, 261), (0, l1), (0, l2), (0, l3), (9, 0), (9, 0), (9, 0), (9, 0), (9, 0)] M Q := by
  refine a_sipush (pc := 0) dX0_leastMissOf_0 (by decide) (by decide +kernel) ?_
  refine a_istore (ls1 := [(2, 261), (0, l1), (0, l2), (0, l3), (0, 10000), (9, 0), (9, 0), (9, 0), (9, 0)]) (pc := 3) dX0_leastMissOf_3 (by decide) (hp1 (t := 0) rfl (by decide)) rfl ?_
  refine a_iconst (pc := 5) dX0_leastMissOf_5 (by decide) ?_
  refine a_istore (ls1 := [(2, 261), (0, l1), (0, l2), (0, l3), (0, 10000), (0, 0), (9, 0), (9, 0), (9, 0)]) (pc := 6) dX0_leastMissOf_6 (by decide) (hp1 (t := 0) rfl (by decide)) rfl ?_
  exact h
set_option maxRecDepth 100000 in
set_option maxHeartbeats 4000000 in
theorem B_Board_leastMissOf_8 {l1 l2 l3 l4 l5 : Int} {M : Mem} {Q : Int → Mem → Prop} (h : (((M 1 0) ≤ l5 → Q l4 M) ∧ (¬ ((M 1 0) ≤ l5) → Calls mX3_placeOf [(2, 1), (0, l5), (0, l3)] S0 M (fun r2 M3 => ((l5 = l1 → (-2147483648 ≤ l5 + 1 ∧ l5 + 1 ≤ 2147483647) ∧ AW mX0_leastMissOf 8 [(2, 261), (0, l1), (0, l2), (0, l3), (0, l4), (0, l5 + 1), (9, 0), (9, 0), (9, 0)] M3 Q) ∧ (¬ l5 = l1 → ((r2 < 0 → (-2147483648 ≤ l5 + 1 ∧ l5 + 1 ≤ 2147483647) ∧ AW mX0_leastMissOf 8 [(2, 261), (0, l1), (0, l2), (0, l3), (0, l4), (0, l5 + 1), (9, 0), (9, 0), (9, 0)] M3 Q) ∧ (¬ (r2 < 0) → ((0 : Int) ≤ l5 ∧ l5 < 8) ∧ (-2147483648 ≤ (M3 3 l5) - 1 ∧ (M3 3 l5) - 1 ≤ 2147483647) ∧ ((((M3 3 l5) - 1) ≤ r2 → (-2147483648 ≤ l5 + 1 ∧ l5 + 1 ≤ 2147483647) ∧ AW mX0_leastMissOf 8 [(2, 261), (0, l1), (0, l2), (0, l3), (0, l4), (0, l5 + 1), (9, 0), (9, 0), (9, 0)] M3 Q) ∧ (¬ (((M3 3 l5) - 1) ≤ r2) → AW mX0_leastMissOf 55 [(2, 261), (0, l1), (0, l2), (0, l3), (0, l4), (0, l5), (0, r2), (0, 0), (9, 0)] M3 Q)))))))))) : AW mX0_leastMissOf 8 [(2, 261), (0, l1), (0, l2), (0, l3), (0, l4), (0, l5), (9, 0), (9, 0), (9, 0)] M Q := by
  refine a_iload (pc := 8) dX0_leastMissOf_8 rfl ?_
  refine a_aload_n (pc := 10) dX0_leastMissOf_10 (by decide) rfl ?_
  refine a_getR (y := 1) (pc := 11) dX0_leastMissOf_11 fl_RX0_9 (by decide) s0_261 rfl rfl ?_
  refine a_getI (y := 0) (pc := 14) dX0_leastMissOf_14 fl_RX0_23 (by decide) s0_1 (Or.inl rfl) rfl ?_
  refine a_icmp_ge (tgt := 128) (pc := 17) dX0_leastMissOf_17 (by decide) (fun hc1 => ?_) (fun hc1 => ?_)
  · replace h := h.1 hc1
    refine a_iload (pc := 128) dX0_leastMissOf_128 rfl ?_
    exact a_ireti (pc := 130) dX0_leastMissOf_130 rfl rfl (Nat.le_of_ble_eq_true rfl) ⟨rfl, h⟩
  · replace h := h.2 hc1
    refine a_aload_n (pc := 20) dX0_leastMissOf_20 (by decide) rfl ?_
    refine a_getR (y := 1) (pc := 21) dX0_leastMissOf_21 fl_RX0_9 (by decide) s0_261 rfl rfl ?_
    refine a_iload (pc := 24) dX0_leastMissOf_24 rfl ?_
    refine a_iload_n (pc := 26) dX0_leastMissOf_26 rfl ?_
    refine p_callV (As := [(0, l5), (0, l3)]) (st := []) (st1 := fun r => [(0, r)])  (pc := 27) dX0_leastMissOf_27 ml_RX0_28 (by decide) s0_1 rfl (by decide) (Nat.le_of_ble_eq_true rfl) rfl (fun _ => rfl) h (fun r2 M3 h => ?_)
    refine a_istore (ls1 := [(2, 261), (0, l1), (0, l2), (0, l3), (0, l4), (0, l5), (0, r2), (9, 0), (9, 0)]) (pc := 30) dX0_leastMissOf_30 (by decide) (hp1 (t := 0) rfl (by decide)) rfl ?_
    refine a_iload (pc := 32) dX0_leastMissOf_32 rfl ?_
    refine a_iload_n (pc := 34) dX0_leastMissOf_34 rfl ?_
    refine a_icmp_eq (tgt := 122) (pc := 35) dX0_leastMissOf_35 (by decide) (fun hc4 => ?_) (fun hc4 => ?_)
    · replace h := h.1 hc4
      have ho5 := h.1
      replace h := h.2
      refine a_iinc (ls1 := [(2, 261), (0, l1), (0, l2), (0, l3), (0, l4), (0, l5 + 1), (0, r2), (9, 0), (9, 0)]) (pc := 122) dX0_leastMissOf_122 rfl (by decide) (hp1 (t := 0) rfl (by decide)) ho5 rfl ?_
      refine a_goto (tgt := 8) (pc := 125) dX0_leastMissOf_125 (by decide) ?_
      exact a_msk [true, true, true, true, true, true, false, true, true] rfl h
    · replace h := h.2 hc4
      refine a_aload_n (pc := 38) dX0_leastMissOf_38 (by decide) rfl ?_
      refine a_iload (pc := 39) dX0_leastMissOf_39 rfl ?_
      refine a_iload (pc := 41) dX0_leastMissOf_41 rfl ?_
      refine p_inlV (Ex := _) (As := [(0, l5), (0, r2)]) (st := []) (st1 := fun r => [(0, r)])  (pc := 43) dX0_leastMissOf_43 ml_RX0_32 (by decide) s0_261 rfl (by decide) (Nat.le_of_ble_eq_true rfl) rfl (fun _ => rfl) (by decide) (by decide) (Nat.le_of_ble_eq_true rfl) rfl ?_
      refine a_iload_n (pc := 0) dX0_goesOn_0 rfl ?_
      refine a_if_lt (tgt := 23) (pc := 1) dX0_goesOn_1 (by decide) (fun hc6 => ?_) (fun hc6 => ?_)
      · replace h := h.1 hc6
        refine a_iconst (pc := 23) dX0_goesOn_23 (by decide) ?_
        refine a_iretz (pc := 24) dX0_goesOn_24 rfl rfl (Nat.le_of_ble_eq_true rfl) (by decide) ⟨rfl, ?_⟩
        refine a_if_ne (tgt := 52) (pc := 46) dX0_leastMissOf_46 (by decide) (fun hc => absurd rfl hc) (fun _ => ?_)
        refine a_goto (tgt := 122) (pc := 49) dX0_leastMissOf_49 (by decide) ?_
        have ho7 := h.1
        replace h := h.2
        refine a_iinc (ls1 := [(2, 261), (0, l1), (0, l2), (0, l3), (0, l4), (0, l5 + 1), (0, r2), (9, 0), (9, 0)]) (pc := 122) dX0_leastMissOf_122 rfl (by decide) (hp1 (t := 0) rfl (by decide)) ho7 rfl ?_
        refine a_goto (tgt := 8) (pc := 125) dX0_leastMissOf_125 (by decide) ?_
        exact a_msk [true, true, true, true, true, true, false, true, true] rfl h
      · replace h := h.2 hc6
        refine a_iload_n (pc := 4) dX0_goesOn_4 rfl ?_
        refine a_aload_n (pc := 5) dX0_goesOn_5 (by decide) rfl ?_
        refine a_getR (y := 1) (pc := 6) dX0_goesOn_6 fl_RX0_9 (by decide) s0_261 rfl rfl ?_
        refine a_getR (y := 3) (pc := 9) dX0_goesOn_9 fl_RX0_50 (by decide) s0_1 rfl rfl ?_
        refine a_iload_n (pc := 12) dX0_goesOn_12 rfl ?_
        have ho8 := h.1
        replace h := h.2
        refine a_iald (pc := 13) dX0_goesOn_13 (by decide) s0_3 ho8.1 ho8.2 ?_
        refine a_iconst (pc := 14) dX0_goesOn_14 (by decide) ?_
        have ho9 := h.1
        replace h := h.2
        refine a_isub (pc := 15) dX0_goesOn_15 ho9 ?_
        refine a_icmp_ge (tgt := 23) (pc := 16) dX0_goesOn_16 (by decide) (fun hc10 => ?_) (fun hc10 => ?_)
        · replace h := h.1 hc10
          refine a_iconst (pc := 23) dX0_goesOn_23 (by decide) ?_
          refine a_iretz (pc := 24) dX0_goesOn_24 rfl rfl (Nat.le_of_ble_eq_true rfl) (by decide) ⟨rfl, ?_⟩
          refine a_if_ne (tgt := 52) (pc := 46) dX0_leastMissOf_46 (by decide) (fun hc => absurd rfl hc) (fun _ => ?_)
          refine a_goto (tgt := 122) (pc := 49) dX0_leastMissOf_49 (by decide) ?_
          have ho11 := h.1
          replace h := h.2
          refine a_iinc (ls1 := [(2, 261), (0, l1), (0, l2), (0, l3), (0, l4), (0, l5 + 1), (0, r2), (9, 0), (9, 0)]) (pc := 122) dX0_leastMissOf_122 rfl (by decide) (hp1 (t := 0) rfl (by decide)) ho11 rfl ?_
          refine a_goto (tgt := 8) (pc := 125) dX0_leastMissOf_125 (by decide) ?_
          exact a_msk [true, true, true, true, true, true, false, true, true] rfl h
        · replace h := h.2 hc10
          refine a_iconst (pc := 19) dX0_goesOn_19 (by decide) ?_
          refine a_goto (tgt := 24) (pc := 20) dX0_goesOn_20 (by decide) ?_
          refine a_iretz (pc := 24) dX0_goesOn_24 rfl rfl (Nat.le_of_ble_eq_true rfl) (by decide) ⟨rfl, ?_⟩
          refine a_if_ne (tgt := 52) (pc := 46) dX0_leastMissOf_46 (by decide) (fun _ => ?_) (fun hc => absurd hc (by decide))
          refine a_iconst (pc := 52) dX0_leastMissOf_52 (by decide) ?_
          refine a_istore (ls1 := [(2, 261), (0, l1), (0, l2), (0, l3), (0, l4), (0, l5), (0, r2), (0, 0), (9, 0)]) (pc := 53) dX0_leastMissOf_53 (by decide) (hp1 (t := 0) rfl (by decide)) rfl ?_
          exact h
set_option maxRecDepth 100000 in
set_option maxHeartbeats 4000000 in
theorem B_Board_leastMissOf_55 {l1 l2 l3 l4 l5 l6 l7 : Int} {M : Mem} {Q : Int → Mem → Prop} (h : ((0 : Int) ≤ l5 ∧ l5 < 8) ∧ (((M 4 l5) ≤ l7 → (-2147483648 ≤ l5 + 1 ∧ l5 + 1 ≤ 2147483647) ∧ AW mX0_leastMissOf 8 [(2, 261), (0, l1), (0, l2), (0, l3), (0, l4), (0, l5 + 1), (9, 0), (9, 0), (9, 0)] M Q) ∧ (¬ ((M 4 l5) ≤ l7) → (-2147483648 ≤ l5 * 6 ∧ l5 * 6 ≤ 2147483647) ∧ (-2147483648 ≤ (l5 * 6) + l7 ∧ (l5 * 6) + l7 ≤ 2147483647) ∧ ((0 : Int) ≤ (l5 * 6) + l7 ∧ (l5 * 6) + l7 < 48) ∧ ((0 : Int) ≤ l6 ∧ l6 < 6) ∧ ((¬ (M 63 ((l5 * 6) + l7)) = 1 → (-2147483648 ≤ l7 + 1 ∧ l7 + 1 ≤ 2147483647) ∧ AW mX0_leastMissOf 55 [(2, 261), (0, l1), (0, l2), (0, l3), (0, l4), (0, l5), (0, l6), (0, l7 + 1), (9, 0)] M Q) ∧ ((M 63 ((l5 * 6) + l7)) = 1 → ((l2 ≤ (M (15 + ((l5 * 6) + l7)) l6) → (-2147483648 ≤ l7 + 1 ∧ l7 + 1 ≤ 2147483647) ∧ AW mX0_leastMissOf 55 [(2, 261), (0, l1), (0, l2), (0, l3), (0, l4), (0, l5), (0, l6), (0, l7 + 1), (9, 0)] M Q) ∧ (¬ (l2 ≤ (M (15 + ((l5 * 6) + l7)) l6)) → (-2147483648 ≤ l2 - (M (15 + ((l5 * 6) + l7)) l6) ∧ l2 - (M (15 + ((l5 * 6) + l7)) l6) ≤ 2147483647) ∧ (-2147483648 ≤ l7 + 1 ∧ l7 + 1 ≤ 2147483647) ∧ AW mX0_leastMissOf 55 [(2, 261), (0, l1), (0, l2), (0, l3), (0, min l4 (l2 - (M (15 + ((l5 * 6) + l7)) l6))), (0, l5), (0, l6), (0, l7 + 1), (9, 0)] M Q))))))) : AW mX0_leastMissOf 55 [(2, 261), (0, l1), (0, l2), (0, l3), (0, l4), (0, l5), (0, l6), (0, l7), (9, 0)] M Q := by
  refine a_iload (pc := 55) dX0_leastMissOf_55 rfl ?_
  refine a_aload_n (pc := 57) dX0_leastMissOf_57 (by decide) rfl ?_
  refine a_getR (y := 1) (pc := 58) dX0_leastMissOf_58 fl_RX0_9 (by decide) s0_261 rfl rfl ?_
  refine a_getR (y := 4) (pc := 61) dX0_leastMissOf_61 fl_RX0_36 (by decide) s0_1 rfl rfl ?_
  refine a_iload (pc := 64) dX0_leastMissOf_64 rfl ?_
  have ho1 := h.1
  replace h := h.2
  refine a_iald (pc := 66) dX0_leastMissOf_66 (by decide) s0_4 ho1.1 ho1.2 ?_
  refine a_icmp_ge (tgt := 122) (pc := 67) dX0_leastMissOf_67 (by decide) (fun hc2 => ?_) (fun hc2 => ?_)
  · replace h := h.1 hc2
    have ho3 := h.1
    replace h := h.2
    refine a_iinc (ls1 := [(2, 261), (0, l1), (0, l2), (0, l3), (0, l4), (0, l5 + 1), (0, l6), (0, l7), (9, 0)]) (pc := 122) dX0_leastMissOf_122 rfl (by decide) (hp1 (t := 0) rfl (by decide)) ho3 rfl ?_
    refine a_goto (tgt := 8) (pc := 125) dX0_leastMissOf_125 (by decide) ?_
    exact a_msk [true, true, true, true, true, true, false, false, true] rfl h
  · replace h := h.2 hc2
    refine a_aload_n (pc := 70) dX0_leastMissOf_70 (by decide) rfl ?_
    refine a_getR (y := 1) (pc := 71) dX0_leastMissOf_71 fl_RX0_9 (by decide) s0_261 rfl rfl ?_
    refine a_iload (pc := 74) dX0_leastMissOf_74 rfl ?_
    refine a_iload (pc := 76) dX0_leastMissOf_76 rfl ?_
    refine a_iload (pc := 78) dX0_leastMissOf_78 rfl ?_
    refine p_inlV (Ex := _) (As := [(0, l5), (0, l7), (0, l6)]) (st := []) (st1 := fun r => [(0, r)])  (pc := 80) dX0_leastMissOf_80 ml_RX0_39 (by decide) s0_1 rfl (by decide) (Nat.le_of_ble_eq_true rfl) rfl (fun _ => rfl) (by decide) (by decide) (Nat.le_of_ble_eq_true rfl) rfl ?_
    refine a_aload_n (pc := 0) dX3_minuteOf_0 (by decide) rfl ?_
    refine a_getR (y := 14) (pc := 1) dX3_minuteOf_1 fl_RX3_30 (by decide) s0_1 rfl rfl ?_
    refine a_iload_n (pc := 4) dX3_minuteOf_4 rfl ?_
    refine a_iload_n (pc := 5) dX3_minuteOf_5 rfl ?_
    refine p_inlS (Ex := _) (As := [(0, l5), (0, l7)]) (st := [(2, 14)]) (st1 := fun r => [(0, r), (2, 14)])  (pc := 6) dX3_minuteOf_6 ml_RX3_49 (by decide) (Nat.le_of_ble_eq_true rfl) rfl (fun _ => rfl) (by decide) (by decide) (Nat.le_of_ble_eq_true rfl) rfl ?_
    refine a_iload_n (pc := 0) dX3_rowOf_0 rfl ?_
    refine a_bipush (pc := 1) dX3_rowOf_1 (by decide) (by decide +kernel) ?_
    have ho4 := h.1
    replace h := h.2
    refine a_imul (pc := 3) dX3_rowOf_3 ho4 ?_
    refine a_iload_n (pc := 4) dX3_rowOf_4 rfl ?_
    have ho5 := h.1
    replace h := h.2
    refine a_iadd (pc := 5) dX3_rowOf_5 ho5 ?_
    refine a_ireti (pc := 6) dX3_rowOf_6 rfl rfl (Nat.le_of_ble_eq_true rfl) ⟨rfl, ?_⟩
    have ho6 := h.1
    replace h := h.2
    have hr7 := rw_14 ((l5 * 6) + l7) ho6.1 ho6.2
    refine a_aald (y := 15 + ((l5 * 6) + l7)) (pc := 9) dX3_minuteOf_9 (by decide) s0_14 ho6.1 ho6.2 (by omega) ?_
    refine a_iload_n (pc := 10) dX3_minuteOf_10 rfl ?_
    have ho8 := h.1
    replace h := h.2
    refine a_iald (pc := 11) dX3_minuteOf_11 hr7.1 hr7.2 ho8.1 ho8.2 ?_
    refine a_ireti (pc := 12) dX3_minuteOf_12 rfl rfl (Nat.le_of_ble_eq_true rfl) ⟨rfl, ?_⟩
    refine a_istore (ls1 := [(2, 261), (0, l1), (0, l2), (0, l3), (0, l4), (0, l5), (0, l6), (0, l7), (0, M (15 + ((l5 * 6) + l7)) l6)]) (pc := 83) dX0_leastMissOf_83 (by decide) (hp1 (t := 0) rfl (by decide)) rfl ?_
    refine a_aload_n (pc := 85) dX0_leastMissOf_85 (by decide) rfl ?_
    refine a_getR (y := 1) (pc := 86) dX0_leastMissOf_86 fl_RX0_9 (by decide) s0_261 rfl rfl ?_
    refine a_iload (pc := 89) dX0_leastMissOf_89 rfl ?_
    refine a_iload (pc := 91) dX0_leastMissOf_91 rfl ?_
    refine p_inlV (Ex := _) (As := [(0, l5), (0, l7)]) (st := []) (st1 := fun r => [(0, r)])  (pc := 93) dX0_leastMissOf_93 ml_RX0_43 (by decide) s0_1 rfl (by decide) (Nat.le_of_ble_eq_true rfl) rfl (fun _ => rfl) (by decide) (by decide) (Nat.le_of_ble_eq_true rfl) rfl ?_
    refine a_aload_n (pc := 0) dX3_isRunning_0 (by decide) rfl ?_
    refine a_getR (y := 63) (pc := 1) dX3_isRunning_1 fl_RX3_33 (by decide) s0_1 rfl rfl ?_
    refine a_iload_n (pc := 4) dX3_isRunning_4 rfl ?_
    refine a_iload_n (pc := 5) dX3_isRunning_5 rfl ?_
    refine p_inlS (Ex := _) (As := [(0, l5), (0, l7)]) (st := [(2, 63)]) (st1 := fun r => [(0, r), (2, 63)])  (pc := 6) dX3_isRunning_6 ml_RX3_49 (by decide) (Nat.le_of_ble_eq_true rfl) rfl (fun _ => rfl) (by decide) (by decide) (Nat.le_of_ble_eq_true rfl) rfl ?_
    refine a_iload_n (pc := 0) dX3_rowOf_0 rfl ?_
    refine a_bipush (pc := 1) dX3_rowOf_1 (by decide) (by decide +kernel) ?_
    refine a_imul (pc := 3) dX3_rowOf_3 ho4 ?_
    refine a_iload_n (pc := 4) dX3_rowOf_4 rfl ?_
    refine a_iadd (pc := 5) dX3_rowOf_5 ho5 ?_
    refine a_ireti (pc := 6) dX3_rowOf_6 rfl rfl (Nat.le_of_ble_eq_true rfl) ⟨rfl, ?_⟩
    refine a_iald (pc := 9) dX3_isRunning_9 (by decide) s0_63 ho6.1 ho6.2 ?_
    refine a_iconst (pc := 10) dX3_isRunning_10 (by decide) ?_
    refine a_icmp_ne (tgt := 18) (pc := 11) dX3_isRunning_11 (by decide) (fun hc9 => ?_) (fun hc9 => ?_)
    · replace h := h.1 hc9
      refine a_iconst (pc := 18) dX3_isRunning_18 (by decide) ?_
      refine a_iretz (pc := 19) dX3_isRunning_19 rfl rfl (Nat.le_of_ble_eq_true rfl) (by decide) ⟨rfl, ?_⟩
      refine a_if_eq (tgt := 116) (pc := 96) dX0_leastMissOf_96 (by decide) (fun _ => ?_) (fun hc => absurd (by decide) hc)
      have ho10 := h.1
      replace h := h.2
      refine a_iinc (ls1 := [(2, 261), (0, l1), (0, l2), (0, l3), (0, l4), (0, l5), (0, l6), (0, l7 + 1), (0, M (15 + ((l5 * 6) + l7)) l6)]) (pc := 116) dX0_leastMissOf_116 rfl (by decide) (hp1 (t := 0) rfl (by decide)) ho10 rfl ?_
      refine a_goto (tgt := 55) (pc := 119) dX0_leastMissOf_119 (by decide) ?_
      exact a_msk [true, true, true, true, true, true, true, true, false] rfl h
    · replace h := h.2 hc9
      refine a_iconst (pc := 14) dX3_isRunning_14 (by decide) ?_
      refine a_goto (tgt := 19) (pc := 15) dX3_isRunning_15 (by decide) ?_
      refine a_iretz (pc := 19) dX3_isRunning_19 rfl rfl (Nat.le_of_ble_eq_true rfl) (by decide) ⟨rfl, ?_⟩
      refine a_if_eq (tgt := 116) (pc := 96) dX0_leastMissOf_96 (by decide) (fun hc => absurd hc (by decide)) (fun _ => ?_)
      refine a_iload (pc := 99) dX0_leastMissOf_99 rfl ?_
      refine a_iload_n (pc := 101) dX0_leastMissOf_101 rfl ?_
      refine a_icmp_ge (tgt := 116) (pc := 102) dX0_leastMissOf_102 (by decide) (fun hc11 => ?_) (fun hc11 => ?_)
      · replace h := h.1 hc11
        have ho12 := h.1
        replace h := h.2
        refine a_iinc (ls1 := [(2, 261), (0, l1), (0, l2), (0, l3), (0, l4), (0, l5), (0, l6), (0, l7 + 1), (0, M (15 + ((l5 * 6) + l7)) l6)]) (pc := 116) dX0_leastMissOf_116 rfl (by decide) (hp1 (t := 0) rfl (by decide)) ho12 rfl ?_
        refine a_goto (tgt := 55) (pc := 119) dX0_leastMissOf_119 (by decide) ?_
        exact a_msk [true, true, true, true, true, true, true, true, false] rfl h
      · replace h := h.2 hc11
        refine a_iload (pc := 105) dX0_leastMissOf_105 rfl ?_
        refine a_iload_n (pc := 107) dX0_leastMissOf_107 rfl ?_
        refine a_iload (pc := 108) dX0_leastMissOf_108 rfl ?_
        have ho13 := h.1
        replace h := h.2
        refine a_isub (pc := 110) dX0_leastMissOf_110 ho13 ?_
        refine a_mmin (z := min l4 (l2 - (M (15 + ((l5 * 6) + l7)) l6))) (pc := 111) dX0_leastMissOf_111 ml_RX0_56 is_min rfl (by decide) (by decide) (Nat.le_of_ble_eq_true rfl) (Nat.le_of_ble_eq_true rfl) (Nat.le_of_ble_eq_true rfl) ?_
        refine a_istore (ls1 := [(2, 261), (0, l1), (0, l2), (0, l3), (0, min l4 (l2 - (M (15 + ((l5 * 6) + l7)) l6))), (0, l5), (0, l6), (0, l7), (0, M (15 + ((l5 * 6) + l7)) l6)]) (pc := 114) dX0_leastMissOf_114 (by decide) (hp1 (t := 0) rfl (by decide)) rfl ?_
        have ho14 := h.1
        replace h := h.2
        refine a_iinc (ls1 := [(2, 261), (0, l1), (0, l2), (0, l3), (0, min l4 (l2 - (M (15 + ((l5 * 6) + l7)) l6))), (0, l5), (0, l6), (0, l7 + 1), (0, M (15 + ((l5 * 6) + l7)) l6)]) (pc := 116) dX0_leastMissOf_116 rfl (by decide) (hp1 (t := 0) rfl (by decide)) ho14 rfl ?_
        refine a_goto (tgt := 55) (pc := 119) dX0_leastMissOf_119 (by decide) ?_
        exact a_msk [true, true, true, true, true, true, true, true, false] rfl h
theorem E_Board_leastMissOf {l1 l2 l3 : Int} {M : Mem} {Q : Int → Mem → Prop} (h : AW mX0_leastMissOf 0 [(2, 261), (0, l1), (0, l2), (0, l3), (9, 0), (9, 0), (9, 0), (9, 0), (9, 0)] M Q) : Calls mX0_leastMissOf [(2, 261), (0, l1), (0, l2), (0, l3)] S0 M Q := calls_of (by decide) (by decide) (Nat.le_of_ble_eq_true rfl) rfl h
set_option maxRecDepth 100000 in
set_option maxHeartbeats 4000000 in
theorem B_Route_addRide_0 {l1 : Int} {M : Mem} {Q : Int → Mem → Prop} (h : Calls mX3_placeOf [(2, 1), (0, M 246 4), (0, l1)] S0 M (fun r1 M2 => ((13 ≤ (M2 246 3) → Q l1 M2) ∧ (¬ (13 ≤ (M2 246 3)) → ((0 ≤ r1 → ((0 : Int) ≤ M2 246 3 ∧ M2 246 3 < 13) ∧ (-2147483648 ≤ (M2 246 3) + 1 ∧ (M2 246 3) + 1 ≤ 2147483647) ∧ ((0 : Int) ≤ (up2 (up2 (up2 M2 246 3 ((M2 246 3) + 1)) (248 + (M2 246 3)) 0 (M2 246 4)) (248 + (M2 246 3)) 1 ((up2 (up2 M2 246 3 ((M2 246 3) + 1)) (248 + (M2 246 3)) 0 (M2 246 4)) 246 5)) 246 4 ∧ (up2 (up2 (up2 M2 246 3 ((M2 246 3) + 1)) (248 + (M2 246 3)) 0 (M2 246 4)) (248 + (M2 246 3)) 1 ((up2 (up2 M2 246 3 ((M2 246 3) + 1)) (248 + (M2 246 3)) 0 (M2 246 4)) 246 5)) 246 4 < 8) ∧ ((0 : Int) ≤ (up2 (up2 (up2 M2 246 3 ((M2 246 3) + 1)) (248 + (M2 246 3)) 0 (M2 246 4)) (248 + (M2 246 3)) 1 ((up2 (up2 M2 246 3 ((M2 246 3) + 1)) (248 + (M2 246 3)) 0 (M2 246 4)) 246 5)) 246 6 ∧ (up2 (up2 (up2 M2 246 3 ((M2 246 3) + 1)) (248 + (M2 246 3)) 0 (M2 246 4)) (248 + (M2 246 3)) 1 ((up2 (up2 M2 246 3 ((M2 246 3) + 1)) (248 + (M2 246 3)) 0 (M2 246 4)) 246 5)) 246 6 < 6) ∧ (-2147483648 ≤ ((up2 (up2 (up2 (up2 (up2 M2 246 3 ((M2 246 3) + 1)) (248 + (M2 246 3)) 0 (M2 246 4)) (248 + (M2 246 3)) 1 ((up2 (up2 M2 246 3 ((M2 246 3) + 1)) (248 + (M2 246 3)) 0 (M2 246 4)) 246 5)) (248 + (M2 246 3)) 2 ((up2 (up2 (up2 M2 246 3 ((M2 246 3) + 1)) (248 + (M2 246 3)) 0 (M2 246 4)) (248 + (M2 246 3)) 1 ((up2 (up2 M2 246 3 ((M2 246 3) + 1)) (248 + (M2 246 3)) 0 (M2 246 4)) 246 5)) (6 + ((up2 (up2 (up2 M2 246 3 ((M2 246 3) + 1)) (248 + (M2 246 3)) 0 (M2 246 4)) (248 + (M2 246 3)) 1 ((up2 (up2 M2 246 3 ((M2 246 3) + 1)) (248 + (M2 246 3)) 0 (M2 246 4)) 246 5)) 246 4)) ((up2 (up2 (up2 M2 246 3 ((M2 246 3) + 1)) (248 + (M2 246 3)) 0 (M2 246 4)) (248 + (M2 246 3)) 1 ((up2 (up2 M2 246 3 ((M2 246 3) + 1)) (248 + (M2 246 3)) 0 (M2 246 4)) 246 5)) 246 6))) (248 + (M2 246 3)) 3 l1) 246 4) * 6 ∧ ((up2 (up2 (up2 (up2 (up2 M2 246 3 ((M2 246 3) + 1)) (248 + (M2 246 3)) 0 (M2 246 4)) (248 + (M2 246 3)) 1 ((up2 (up2 M2 246 3 ((M2 246 3) + 1)) (248 + (M2 246 3)) 0 (M2 246 4)) 246 5)) (248 + (M2 246 3)) 2 ((up2 (up2 (up2 M2 246 3 ((M2 246 3) + 1)) (248 + (M2 246 3)) 0 (M2 246 4)) (248 + (M2 246 3)) 1 ((up2 (up2 M2 246 3 ((M2 246 3) + 1)) (248 + (M2 246 3)) 0 (M2 246 4)) 246 5)) (6 + ((up2 (up2 (up2 M2 246 3 ((M2 246 3) + 1)) (248 + (M2 246 3)) 0 (M2 246 4)) (248 + (M2 246 3)) 1 ((up2 (up2 M2 246 3 ((M2 246 3) + 1)) (248 + (M2 246 3)) 0 (M2 246 4)) 246 5)) 246 4)) ((up2 (up2 (up2 M2 246 3 ((M2 246 3) + 1)) (248 + (M2 246 3)) 0 (M2 246 4)) (248 + (M2 246 3)) 1 ((up2 (up2 M2 246 3 ((M2 246 3) + 1)) (248 + (M2 246 3)) 0 (M2 246 4)) 246 5)) 246 6))) (248 + (M2 246 3)) 3 l1) 246 4) * 6 ≤ 2147483647) ∧ (-2147483648 ≤ (((up2 (up2 (up2 (up2 (up2 M2 246 3 ((M2 246 3) + 1)) (248 + (M2 246 3)) 0 (M2 246 4)) (248 + (M2 246 3)) 1 ((up2 (up2 M2 246 3 ((M2 246 3) + 1)) (248 + (M2 246 3)) 0 (M2 246 4)) 246 5)) (248 + (M2 246 3)) 2 ((up2 (up2 (up2 M2 246 3 ((M2 246 3) + 1)) (248 + (M2 246 3)) 0 (M2 246 4)) (248 + (M2 246 3)) 1 ((up2 (up2 M2 246 3 ((M2 246 3) + 1)) (248 + (M2 246 3)) 0 (M2 246 4)) 246 5)) (6 + ((up2 (up2 (up2 M2 246 3 ((M2 246 3) + 1)) (248 + (M2 246 3)) 0 (M2 246 4)) (248 + (M2 246 3)) 1 ((up2 (up2 M2 246 3 ((M2 246 3) + 1)) (248 + (M2 246 3)) 0 (M2 246 4)) 246 5)) 246 4)) ((up2 (up2 (up2 M2 246 3 ((M2 246 3) + 1)) (248 + (M2 246 3)) 0 (M2 246 4)) (248 + (M2 246 3)) 1 ((up2 (up2 M2 246 3 ((M2 246 3) + 1)) (248 + (M2 246 3)) 0 (M2 246 4)) 246 5)) 246 6))) (248 + (M2 246 3)) 3 l1) 246 4) * 6) + ((up2 (up2 (up2 (up2 (up2 M2 246 3 ((M2 246 3) + 1)) (248 + (M2 246 3)) 0 (M2 246 4)) (248 + (M2 246 3)) 1 ((up2 (up2 M2 246 3 ((M2 246 3) + 1)) (248 + (M2 246 3)) 0 (M2 246 4)) 246 5)) (248 + (M2 246 3)) 2 ((up2 (up2 (up2 M2 246 3 ((M2 246 3) + 1)) (248 + (M2 246 3)) 0 (M2 246 4)) (248 + (M2 246 3)) 1 ((up2 (up2 M2 246 3 ((M2 246 3) + 1)) (248 + (M2 246 3)) 0 (M2 246 4)) 246 5)) (6 + ((up2 (up2 (up2 M2 246 3 ((M2 246 3) + 1)) (248 + (M2 246 3)) 0 (M2 246 4)) (248 + (M2 246 3)) 1 ((up2 (up2 M2 246 3 ((M2 246 3) + 1)) (248 + (M2 246 3)) 0 (M2 246 4)) 246 5)) 246 4)) ((up2 (up2 (up2 M2 246 3 ((M2 246 3) + 1)) (248 + (M2 246 3)) 0 (M2 246 4)) (248 + (M2 246 3)) 1 ((up2 (up2 M2 246 3 ((M2 246 3) + 1)) (248 + (M2 246 3)) 0 (M2 246 4)) 246 5)) 246 6))) (248 + (M2 246 3)) 3 l1) 246 5) ∧ (((up2 (up2 (up2 (up2 (up2 M2 246 3 ((M2 246 3) + 1)) (248 + (M2 246 3)) 0 (M2 246 4)) (248 + (M2 246 3)) 1 ((up2 (up2 M2 246 3 ((M2 246 3) + 1)) (248 + (M2 246 3)) 0 (M2 246 4)) 246 5)) (248 + (M2 246 3)) 2 ((up2 (up2 (up2 M2 246 3 ((M2 246 3) + 1)) (248 + (M2 246 3)) 0 (M2 246 4)) (248 + (M2 246 3)) 1 ((up2 (up2 M2 246 3 ((M2 246 3) + 1)) (248 + (M2 246 3)) 0 (M2 246 4)) 246 5)) (6 + ((up2 (up2 (up2 M2 246 3 ((M2 246 3) + 1)) (248 + (M2 246 3)) 0 (M2 246 4)) (248 + (M2 246 3)) 1 ((up2 (up2 M2 246 3 ((M2 246 3) + 1)) (248 + (M2 246 3)) 0 (M2 246 4)) 246 5)) 246 4)) ((up2 (up2 (up2 M2 246 3 ((M2 246 3) + 1)) (248 + (M2 246 3)) 0 (M2 246 4)) (248 + (M2 246 3)) 1 ((up2 (up2 M2 246 3 ((M2 246 3) + 1)) (248 + (M2 246 3)) 0 (M2 246 4)) 246 5)) 246 6))) (248 + (M2 246 3)) 3 l1) 246 4) * 6) + ((up2 (up2 (up2 (up2 (up2 M2 246 3 ((M2 246 3) + 1)) (248 + (M2 246 3)) 0 (M2 246 4)) (248 + (M2 246 3)) 1 ((up2 (up2 M2 246 3 ((M2 246 3) + 1)) (248 + (M2 246 3)) 0 (M2 246 4)) 246 5)) (248 + (M2 246 3)) 2 ((up2 (up2 (up2 M2 246 3 ((M2 246 3) + 1)) (248 + (M2 246 3)) 0 (M2 246 4)) (248 + (M2 246 3)) 1 ((up2 (up2 M2 246 3 ((M2 246 3) + 1)) (248 + (M2 246 3)) 0 (M2 246 4)) 246 5)) (6 + ((up2 (up2 (up2 M2 246 3 ((M2 246 3) + 1)) (248 + (M2 246 3)) 0 (M2 246 4)) (248 + (M2 246 3)) 1 ((up2 (up2 M2 246 3 ((M2 246 3) + 1)) (248 + (M2 246 3)) 0 (M2 246 4)) 246 5)) 246 4)) ((up2 (up2 (up2 M2 246 3 ((M2 246 3) + 1)) (248 + (M2 246 3)) 0 (M2 246 4)) (248 + (M2 246 3)) 1 ((up2 (up2 M2 246 3 ((M2 246 3) + 1)) (248 + (M2 246 3)) 0 (M2 246 4)) 246 5)) 246 6))) (248 + (M2 246 3)) 3 l1) 246 5) ≤ 2147483647) ∧ ((0 : Int) ≤ (((up2 (up2 (up2 (up2 (up2 M2 246 3 ((M2 246 3) + 1)) (248 + (M2 246 3)) 0 (M2 246 4)) (248 + (M2 246 3)) 1 ((up2 (up2 M2 246 3 ((M2 246 3) + 1)) (248 + (M2 246 3)) 0 (M2 246 4)) 246 5)) (248 + (M2 246 3)) 2 ((up2 (up2 (up2 M2 246 3 ((M2 246 3) + 1)) (248 + (M2 246 3)) 0 (M2 246 4)) (248 + (M2 246 3)) 1 ((up2 (up2 M2 246 3 ((M2 246 3) + 1)) (248 + (M2 246 3)) 0 (M2 246 4)) 246 5)) (6 + ((up2 (up2 (up2 M2 246 3 ((M2 246 3) + 1)) (248 + (M2 246 3)) 0 (M2 246 4)) (248 + (M2 246 3)) 1 ((up2 (up2 M2 246 3 ((M2 246 3) + 1)) (248 + (M2 246 3)) 0 (M2 246 4)) 246 5)) 246 4)) ((up2 (up2 (up2 M2 246 3 ((M2 246 3) + 1)) (248 + (M2 246 3)) 0 (M2 246 4)) (248 + (M2 246 3)) 1 ((up2 (up2 M2 246 3 ((M2 246 3) + 1)) (248 + (M2 246 3)) 0 (M2 246 4)) 246 5)) 246 6))) (248 + (M2 246 3)) 3 l1) 246 4) * 6) + ((up2 (up2 (up2 (up2 (up2 M2 246 3 ((M2 246 3) + 1)) (248 + (M2 246 3)) 0 (M2 246 4)) (248 + (M2 246 3)) 1 ((up2 (up2 M2 246 3 ((M2 246 3) + 1)) (248 + (M2 246 3)) 0 (M2 246 4)) 246 5)) (248 + (M2 246 3)) 2 ((up2 (up2 (up2 M2 246 3 ((M2 246 3) + 1)) (248 + (M2 246 3)) 0 (M2 246 4)) (248 + (M2 246 3)) 1 ((up2 (up2 M2 246 3 ((M2 246 3) + 1)) (248 + (M2 246 3)) 0 (M2 246 4)) 246 5)) (6 + ((up2 (up2 (up2 M2 246 3 ((M2 246 3) + 1)) (248 + (M2 246 3)) 0 (M2 246 4)) (248 + (M2 246 3)) 1 ((up2 (up2 M2 246 3 ((M2 246 3) + 1)) (248 + (M2 246 3)) 0 (M2 246 4)) 246 5)) 246 4)) ((up2 (up2 (up2 M2 246 3 ((M2 246 3) + 1)) (248 + (M2 246 3)) 0 (M2 246 4)) (248 + (M2 246 3)) 1 ((up2 (up2 M2 246 3 ((M2 246 3) + 1)) (248 + (M2 246 3)) 0 (M2 246 4)) 246 5)) 246 6))) (248 + (M2 246 3)) 3 l1) 246 5) ∧ (((up2 (up2 (up2 (up2 (up2 M2 246 3 ((M2 246 3) + 1)) (248 + (M2 246 3)) 0 (M2 246 4)) (248 + (M2 246 3)) 1 ((up2 (up2 M2 246 3 ((M2 246 3) + 1)) (248 + (M2 246 3)) 0 (M2 246 4)) 246 5)) (248 + (M2 246 3)) 2 ((up2 (up2 (up2 M2 246 3 ((M2 246 3) + 1)) (248 + (M2 246 3)) 0 (M2 246 4)) (248 + (M2 246 3)) 1 ((up2 (up2 M2 246 3 ((M2 246 3) + 1)) (248 + (M2 246 3)) 0 (M2 246 4)) 246 5)) (6 + ((up2 (up2 (up2 M2 246 3 ((M2 246 3) + 1)) (248 + (M2 246 3)) 0 (M2 246 4)) (248 + (M2 246 3)) 1 ((up2 (up2 M2 246 3 ((M2 246 3) + 1)) (248 + (M2 246 3)) 0 (M2 246 4)) 246 5)) 246 4)) ((up2 (up2 (up2 M2 246 3 ((M2 246 3) + 1)) (248 + (M2 246 3)) 0 (M2 246 4)) (248 + (M2 246 3)) 1 ((up2 (up2 M2 246 3 ((M2 246 3) + 1)) (248 + (M2 246 3)) 0 (M2 246 4)) 246 5)) 246 6))) (248 + (M2 246 3)) 3 l1) 246 4) * 6) + ((up2 (up2 (up2 (up2 (up2 M2 246 3 ((M2 246 3) + 1)) (248 + (M2 246 3)) 0 (M2 246 4)) (248 + (M2 246 3)) 1 ((up2 (up2 M2 246 3 ((M2 246 3) + 1)) (248 + (M2 246 3)) 0 (M2 246 4)) 246 5)) (248 + (M2 246 3)) 2 ((up2 (up2 (up2 M2 246 3 ((M2 246 3) + 1)) (248 + (M2 246 3)) 0 (M2 246 4)) (248 + (M2 246 3)) 1 ((up2 (up2 M2 246 3 ((M2 246 3) + 1)) (248 + (M2 246 3)) 0 (M2 246 4)) 246 5)) (6 + ((up2 (up2 (up2 M2 246 3 ((M2 246 3) + 1)) (248 + (M2 246 3)) 0 (M2 246 4)) (248 + (M2 246 3)) 1 ((up2 (up2 M2 246 3 ((M2 246 3) + 1)) (248 + (M2 246 3)) 0 (M2 246 4)) 246 5)) 246 4)) ((up2 (up2 (up2 M2 246 3 ((M2 246 3) + 1)) (248 + (M2 246 3)) 0 (M2 246 4)) (248 + (M2 246 3)) 1 ((up2 (up2 M2 246 3 ((M2 246 3) + 1)) (248 + (M2 246 3)) 0 (M2 246 4)) 246 5)) 246 6))) (248 + (M2 246 3)) 3 l1) 246 5) < 48) ∧ ((0 : Int) ≤ (up2 (up2 (up2 (up2 (up2 M2 246 3 ((M2 246 3) + 1)) (248 + (M2 246 3)) 0 (M2 246 4)) (248 + (M2 246 3)) 1 ((up2 (up2 M2 246 3 ((M2 246 3) + 1)) (248 + (M2 246 3)) 0 (M2 246 4)) 246 5)) (248 + (M2 246 3)) 2 ((up2 (up2 (up2 M2 246 3 ((M2 246 3) + 1)) (248 + (M2 246 3)) 0 (M2 246 4)) (248 + (M2 246 3)) 1 ((up2 (up2 M2 246 3 ((M2 246 3) + 1)) (248 + (M2 246 3)) 0 (M2 246 4)) 246 5)) (6 + ((up2 (up2 (up2 M2 246 3 ((M2 246 3) + 1)) (248 + (M2 246 3)) 0 (M2 246 4)) (248 + (M2 246 3)) 1 ((up2 (up2 M2 246 3 ((M2 246 3) + 1)) (248 + (M2 246 3)) 0 (M2 246 4)) 246 5)) 246 4)) ((up2 (up2 (up2 M2 246 3 ((M2 246 3) + 1)) (248 + (M2 246 3)) 0 (M2 246 4)) (248 + (M2 246 3)) 1 ((up2 (up2 M2 246 3 ((M2 246 3) + 1)) (248 + (M2 246 3)) 0 (M2 246 4)) 246 5)) 246 6))) (248 + (M2 246 3)) 3 l1) 246 6 ∧ (up2 (up2 (up2 (up2 (up2 M2 246 3 ((M2 246 3) + 1)) (248 + (M2 246 3)) 0 (M2 246 4)) (248 + (M2 246 3)) 1 ((up2 (up2 M2 246 3 ((M2 246 3) + 1)) (248 + (M2 246 3)) 0 (M2 246 4)) 246 5)) (248 + (M2 246 3)) 2 ((up2 (up2 (up2 M2 246 3 ((M2 246 3) + 1)) (248 + (M2 246 3)) 0 (M2 246 4)) (248 + (M2 246 3)) 1 ((up2 (up2 M2 246 3 ((M2 246 3) + 1)) (248 + (M2 246 3)) 0 (M2 246 4)) 246 5)) (6 + ((up2 (up2 (up2 M2 246 3 ((M2 246 3) + 1)) (248 + (M2 246 3)) 0 (M2 246 4)) (248 + (M2 246 3)) 1 ((up2 (up2 M2 246 3 ((M2 246 3) + 1)) (248 + (M2 246 3)) 0 (M2 246 4)) 246 5)) 246 4)) ((up2 (up2 (up2 M2 246 3 ((M2 246 3) + 1)) (248 + (M2 246 3)) 0 (M2 246 4)) (248 + (M2 246 3)) 1 ((up2 (up2 M2 246 3 ((M2 246 3) + 1)) (248 + (M2 246 3)) 0 (M2 246 4)) 246 5)) 246 6))) (248 + (M2 246 3)) 3 l1) 246 6 < 6) ∧ (-2147483648 ≤ ((up2 (up2 (up2 (up2 (up2 (up2 M2 246 3 ((M2 246 3) + 1)) (248 + (M2 246 3)) 0 (M2 246 4)) (248 + (M2 246 3)) 1 ((up2 (up2 M2 246 3 ((M2 246 3) + 1)) (248 + (M2 246 3)) 0 (M2 246 4)) 246 5)) (248 + (M2 246 3)) 2 ((up2 (up2 (up2 M2 246 3 ((M2 246 3) + 1)) (248 + (M2 246 3)) 0 (M2 246 4)) (248 + (M2 246 3)) 1 ((up2 (up2 M2 246 3 ((M2 246 3) + 1)) (248 + (M2 246 3)) 0 (M2 246 4)) 246 5)) (6 + ((up2 (up2 (up2 M2 246 3 ((M2 246 3) + 1)) (248 + (M2 246 3)) 0 (M2 246 4)) (248 + (M2 246 3)) 1 ((up2 (up2 M2 246 3 ((M2 246 3) + 1)) (248 + (M2 246 3)) 0 (M2 246 4)) 246 5)) 246 4)) ((up2 (up2 (up2 M2 246 3 ((M2 246 3) + 1)) (248 + (M2 246 3)) 0 (M2 246 4)) (248 + (M2 246 3)) 1 ((up2 (up2 M2 246 3 ((M2 246 3) + 1)) (248 + (M2 246 3)) 0 (M2 246 4)) 246 5)) 246 6))) (248 + (M2 246 3)) 3 l1) (248 + (M2 246 3)) 4 ((up2 (up2 (up2 (up2 (up2 M2 246 3 ((M2 246 3) + 1)) (248 + (M2 246 3)) 0 (M2 246 4)) (248 + (M2 246 3)) 1 ((up2 (up2 M2 246 3 ((M2 246 3) + 1)) (248 + (M2 246 3)) 0 (M2 246 4)) 246 5)) (248 + (M2 246 3)) 2 ((up2 (up2 (up2 M2 246 3 ((M2 246 3) + 1)) (248 + (M2 246 3)) 0 (M2 246 4)) (248 + (M2 246 3)) 1 ((up2 (up2 M2 246 3 ((M2 246 3) + 1)) (248 + (M2 246 3)) 0 (M2 246 4)) 246 5)) (6 + ((up2 (up2 (up2 M2 246 3 ((M2 246 3) + 1)) (248 + (M2 246 3)) 0 (M2 246 4)) (248 + (M2 246 3)) 1 ((up2 (up2 M2 246 3 ((M2 246 3) + 1)) (248 + (M2 246 3)) 0 (M2 246 4)) 246 5)) 246 4)) ((up2 (up2 (up2 M2 246 3 ((M2 246 3) + 1)) (248 + (M2 246 3)) 0 (M2 246 4)) (248 + (M2 246 3)) 1 ((up2 (up2 M2 246 3 ((M2 246 3) + 1)) (248 + (M2 246 3)) 0 (M2 246 4)) 246 5)) 246 6))) (248 + (M2 246 3)) 3 l1) (15 + ((((up2 (up2 (up2 (up2 (up2 M2 246 3 ((M2 246 3) + 1)) (248 + (M2 246 3)) 0 (M2 246 4)) (248 + (M2 246 3)) 1 ((up2 (up2 M2 246 3 ((M2 246 3) + 1)) (248 + (M2 246 3)) 0 (M2 246 4)) 246 5)) (248 + (M2 246 3)) 2 ((up2 (up2 (up2 M2 246 3 ((M2 246 3) + 1)) (248 + (M2 246 3)) 0 (M2 246 4)) (248 + (M2 246 3)) 1 ((up2 (up2 M2 246 3 ((M2 246 3) + 1)) (248 + (M2 246 3)) 0 (M2 246 4)) 246 5)) (6 + ((up2 (up2 (up2 M2 246 3 ((M2 246 3) + 1)) (248 + (M2 246 3)) 0 (M2 246 4)) (248 + (M2 246 3)) 1 ((up2 (up2 M2 246 3 ((M2 246 3) + 1)) (248 + (M2 246 3)) 0 (M2 246 4)) 246 5)) 246 4)) ((up2 (up2 (up2 M2 246 3 ((M2 246 3) + 1)) (248 + (M2 246 3)) 0 (M2 246 4)) (248 + (M2 246 3)) 1 ((up2 (up2 M2 246 3 ((M2 246 3) + 1)) (248 + (M2 246 3)) 0 (M2 246 4)) 246 5)) 246 6))) (248 + (M2 246 3)) 3 l1) 246 4) * 6) + ((up2 (up2 (up2 (up2 (up2 M2 246 3 ((M2 246 3) + 1)) (248 + (M2 246 3)) 0 (M2 246 4)) (248 + (M2 246 3)) 1 ((up2 (up2 M2 246 3 ((M2 246 3) + 1)) (248 + (M2 246 3)) 0 (M2 246 4)) 246 5)) (248 + (M2 246 3)) 2 ((up2 (up2 (up2 M2 246 3 ((M2 246 3) + 1)) (248 + (M2 246 3)) 0 (M2 246 4)) (248 + (M2 246 3)) 1 ((up2 (up2 M2 246 3 ((M2 246 3) + 1)) (248 + (M2 246 3)) 0 (M2 246 4)) 246 5)) (6 + ((up2 (up2 (up2 M2 246 3 ((M2 246 3) + 1)) (248 + (M2 246 3)) 0 (M2 246 4)) (248 + (M2 246 3)) 1 ((up2 (up2 M2 246 3 ((M2 246 3) + 1)) (248 + (M2 246 3)) 0 (M2 246 4)) 246 5)) 246 4)) ((up2 (up2 (up2 M2 246 3 ((M2 246 3) + 1)) (248 + (M2 246 3)) 0 (M2 246 4)) (248 + (M2 246 3)) 1 ((up2 (up2 M2 246 3 ((M2 246 3) + 1)) (248 + (M2 246 3)) 0 (M2 246 4)) 246 5)) 246 6))) (248 + (M2 246 3)) 3 l1) 246 5))) ((up2 (up2 (up2 (up2 (up2 M2 246 3 ((M2 246 3) + 1)) (248 + (M2 246 3)) 0 (M2 246 4)) (248 + (M2 246 3)) 1 ((up2 (up2 M2 246 3 ((M2 246 3) + 1)) (248 + (M2 246 3)) 0 (M2 246 4)) 246 5)) (248 + (M2 246 3)) 2 ((up2 (up2 (up2 M2 246 3 ((M2 246 3) + 1)) (248 + (M2 246 3)) 0 (M2 246 4)) (248 + (M2 246 3)) 1 ((up2 (up2 M2 246 3 ((M2 246 3) + 1)) (248 + (M2 246 3)) 0 (M2 246 4)) 246 5)) (6 + ((up2 (up2 (up2 M2 246 3 ((M2 246 3) + 1)) (248 + (M2 246 3)) 0 (M2 246 4)) (248 + (M2 246 3)) 1 ((up2 (up2 M2 246 3 ((M2 246 3) + 1)) (248 + (M2 246 3)) 0 (M2 246 4)) 246 5)) 246 4)) ((up2 (up2 (up2 M2 246 3 ((M2 246 3) + 1)) (248 + (M2 246 3)) 0 (M2 246 4)) (248 + (M2 246 3)) 1 ((up2 (up2 M2 246 3 ((M2 246 3) + 1)) (248 + (M2 246 3)) 0 (M2 246 4)) 246 5)) 246 6))) (248 + (M2 246 3)) 3 l1) 246 6))) 246 4) * 6 ∧ ((up2 (up2 (up2 (up2 (up2 (up2 M2 246 3 ((M2 246 3) + 1)) (248 + (M2 246 3)) 0 (M2 246 4)) (248 + (M2 246 3)) 1 ((up2 (up2 M2 246 3 ((M2 246 3) + 1)) (248 + (M2 246 3)) 0 (M2 246 4)) 246 5)) (248 + (M2 246 3)) 2 ((up2 (up2 (up2 M2 246 3 ((M2 246 3) + 1)) (248 + (M2 246 3)) 0 (M2 246 4)) (248 + (M2 246 3)) 1 ((up2 (up2 M2 246 3 ((M2 246 3) + 1)) (248 + (M2 246 3)) 0 (M2 246 4)) 246 5)) (6 + ((up2 (up2 (up2 M2 246 3 ((M2 246 3) + 1)) (248 + (M2 246 3)) 0 (M2 246 4)) (248 + (M2 246 3)) 1 ((up2 (up2 M2 246 3 ((M2 246 3) + 1)) (248 + (M2 246 3)) 0 (M2 246 4)) 246 5)) 246 4)) ((up2 (up2 (up2 M2 246 3 ((M2 246 3) + 1)) (248 + (M2 246 3)) 0 (M2 246 4)) (248 + (M2 246 3)) 1 ((up2 (up2 M2 246 3 ((M2 246 3) + 1)) (248 + (M2 246 3)) 0 (M2 246 4)) 246 5)) 246 6))) (248 + (M2 246 3)) 3 l1) (248 + (M2 246 3)) 4 ((up2 (up2 (up2 (up2 (up2 M2 246 3 ((M2 246 3) + 1)) (248 + (M2 246 3)) 0 (M2 246 4)) (248 + (M2 246 3)) 1 ((up2 (up2 M2 246 3 ((M2 246 3) + 1)) (248 + (M2 246 3)) 0 (M2 246 4)) 246 5)) (248 + (M2 246 3)) 2 ((up2 (up2 (up2 M2 246 3 ((M2 246 3) + 1)) (248 + (M2 246 3)) 0 (M2 246 4)) (248 + (M2 246 3)) 1 ((up2 (up2 M2 246 3 ((M2 246 3) + 1)) (248 + (M2 246 3)) 0 (M2 246 4)) 246 5)) (6 + ((up2 (up2 (up2 M2 246 3 ((M2 246 3) + 1)) (248 + (M2 246 3)) 0 (M2 246 4)) (248 + (M2 246 3)) 1 ((up2 (up2 M2 246 3 ((M2 246 3) + 1)) (248 + (M2 246 3)) 0 (M2 246 4)) 246 5)) 246 4)) ((up2 (up2 (up2 M2 246 3 ((M2 246 3) + 1)) (248 + (M2 246 3)) 0 (M2 246 4)) (248 + (M2 246 3)) 1 ((up2 (up2 M2 246 3 ((M2 246 3) + 1)) (248 + (M2 246 3)) 0 (M2 246 4)) 246 5)) 246 6))) (248 + (M2 246 3)) 3 l1) (15 + ((((up2 (up2 (up2 (up2 (up2 M2 246 3 ((M2 246 3) + 1)) (248 + (M2 246 3)) 0 (M2 246 4)) (248 + (M2 246 3)) 1 ((up2 (up2 M2 246 3 ((M2 246 3) + 1)) (248 + (M2 246 3)) 0 (M2 246 4)) 246 5)) (248 + (M2 246 3)) 2 ((up2 (up2 (up2 M2 246 3 ((M2 246 3) + 1)) (248 + (M2 246 3)) 0 (M2 246 4)) (248 + (M2 246 3)) 1 ((up2 (up2 M2 246 3 ((M2 246 3) + 1)) (248 + (M2 246 3)) 0 (M2 246 4)) 246 5)) (6 + ((up2 (up2 (up2 M2 246 3 ((M2 246 3) + 1)) (248 + (M2 246 3)) 0 (M2 246 4)) (248 + (M2 246 3)) 1 ((up2 (up2 M2 246 3 ((M2 246 3) + 1)) (248 + (M2 246 3)) 0 (M2 246 4)) 246 5)) 246 4)) ((up2 (up2 (up2 M2 246 3 ((M2 246 3) + 1)) (248 + (M2 246 3)) 0 (M2 246 4)) (248 + (M2 246 3)) 1 ((up2 (up2 M2 246 3 ((M2 246 3) + 1)) (248 + (M2 246 3)) 0 (M2 246 4)) 246 5)) 246 6))) (248 + (M2 246 3)) 3 l1) 246 4) * 6) + ((up2 (up2 (up2 (up2 (up2 M2 246 3 ((M2 246 3) + 1)) (248 + (M2 246 3)) 0 (M2 246 4)) (248 + (M2 246 3)) 1 ((up2 (up2 M2 246 3 ((M2 246 3) + 1)) (248 + (M2 246 3)) 0 (M2 246 4)) 246 5)) (248 + (M2 246 3)) 2 ((up2 (up2 (up2 M2 246 3 ((M2 246 3) + 1)) (248 + (M2 246 3)) 0 (M2 246 4)) (248 + (M2 246 3)) 1 ((up2 (up2 M2 246 3 ((M2 246 3) + 1)) (248 + (M2 246 3)) 0 (M2 246 4)) 246 5)) (6 + ((up2 (up2 (up2 M2 246 3 ((M2 246 3) + 1)) (248 + (M2 246 3)) 0 (M2 246 4)) (248 + (M2 246 3)) 1 ((up2 (up2 M2 246 3 ((M2 246 3) + 1)) (248 + (M2 246 3)) 0 (M2 246 4)) 246 5)) 246 4)) ((up2 (up2 (up2 M2 246 3 ((M2 246 3) + 1)) (248 + (M2 246 3)) 0 (M2 246 4)) (248 + (M2 246 3)) 1 ((up2 (up2 M2 246 3 ((M2 246 3) + 1)) (248 + (M2 246 3)) 0 (M2 246 4)) 246 5)) 246 6))) (248 + (M2 246 3)) 3 l1) 246 5))) ((up2 (up2 (up2 (up2 (up2 M2 246 3 ((M2 246 3) + 1)) (248 + (M2 246 3)) 0 (M2 246 4)) (248 + (M2 246 3)) 1 ((up2 (up2 M2 246 3 ((M2 246 3) + 1)) (248 + (M2 246 3)) 0 (M2 246 4)) 246 5)) (248 + (M2 246 3)) 2 ((up2 (up2 (up2 M2 246 3 ((M2 246 3) + 1)) (248 + (M2 246 3)) 0 (M2 246 4)) (248 + (M2 246 3)) 1 ((up2 (up2 M2 246 3 ((M2 246 3) + 1)) (248 + (M2 246 3)) 0 (M2 246 4)) 246 5)) (6 + ((up2 (up2 (up2 M2 246 3 ((M2 246 3) + 1)) (248 + (M2 246 3)) 0 (M2 246 4)) (248 + (M2 246 3)) 1 ((up2 (up2 M2 246 3 ((M2 246 3) + 1)) (248 + (M2 246 3)) 0 (M2 246 4)) 246 5)) 246 4)) ((up2 (up2 (up2 M2 246 3 ((M2 246 3) + 1)) (248 + (M2 246 3)) 0 (M2 246 4)) (248 + (M2 246 3)) 1 ((up2 (up2 M2 246 3 ((M2 246 3) + 1)) (248 + (M2 246 3)) 0 (M2 246 4)) 246 5)) 246 6))) (248 + (M2 246 3)) 3 l1) 246 6))) 246 4) * 6 ≤ 2147483647) ∧ (-2147483648 ≤ (((up2 (up2 (up2 (up2 (up2 (up2 M2 246 3 ((M2 246 3) + 1)) (248 + (M2 246 3)) 0 (M2 246 4)) (248 + (M2 246 3)) 1 ((up2 (up2 M2 246 3 ((M2 246 3) + 1)) (248 + (M2 246 3)) 0 (M2 246 4)) 246 5)) (248 + (M2 246 3)) 2 ((up2 (up2 (up2 M2 246 3 ((M2 246 3) + 1)) (248 + (M2 246 3)) 0 (M2 246 4)) (248 + (M2 246 3)) 1 ((up2 (up2 M2 246 3 ((M2 246 3) + 1)) (248 + (M2 246 3)) 0 (M2 246 4)) 246 5)) (6 + ((up2 (up2 (up2 M2 246 3 ((M2 246 3) + 1)) (248 + (M2 246 3)) 0 (M2 246 4)) (248 + (M2 246 3)) 1 ((up2 (up2 M2 246 3 ((M2 246 3) + 1)) (248 + (M2 246 3)) 0 (M2 246 4)) 246 5)) 246 4)) ((up2 (up2 (up2 M2 246 3 ((M2 246 3) + 1)) (248 + (M2 246 3)) 0 (M2 246 4)) (248 + (M2 246 3)) 1 ((up2 (up2 M2 246 3 ((M2 246 3) + 1)) (248 + (M2 246 3)) 0 (M2 246 4)) 246 5)) 246 6))) (248 + (M2 246 3)) 3 l1) (248 + (M2 246 3)) 4 ((up2 (up2 (up2 (up2 (up2 M2 246 3 ((M2 246 3) + 1)) (248 + (M2 246 3)) 0 (M2 246 4)) (248 + (M2 246 3)) 1 ((up2 (up2 M2 246 3 ((M2 246 3) + 1)) (248 + (M2 246 3)) 0 (M2 246 4)) 246 5)) (248 + (M2 246 3)) 2 ((up2 (up2 (up2 M2 246 3 ((M2 246 3) + 1)) (248 + (M2 246 3)) 0 (M2 246 4)) (248 + (M2 246 3)) 1 ((up2 (up2 M2 246 3 ((M2 246 3) + 1)) (248 + (M2 246 3)) 0 (M2 246 4)) 246 5)) (6 + ((up2 (up2 (up2 M2 246 3 ((M2 246 3) + 1)) (248 + (M2 246 3)) 0 (M2 246 4)) (248 + (M2 246 3)) 1 ((up2 (up2 M2 246 3 ((M2 246 3) + 1)) (248 + (M2 246 3)) 0 (M2 246 4)) 246 5)) 246 4)) ((up2 (up2 (up2 M2 246 3 ((M2 246 3) + 1)) (248 + (M2 246 3)) 0 (M2 246 4)) (248 + (M2 246 3)) 1 ((up2 (up2 M2 246 3 ((M2 246 3) + 1)) (248 + (M2 246 3)) 0 (M2 246 4)) 246 5)) 246 6))) (248 + (M2 246 3)) 3 l1) (15 + ((((up2 (up2 (up2 (up2 (up2 M2 246 3 ((M2 246 3) + 1)) (248 + (M2 246 3)) 0 (M2 246 4)) (248 + (M2 246 3)) 1 ((up2 (up2 M2 246 3 ((M2 246 3) + 1)) (248 + (M2 246 3)) 0 (M2 246 4)) 246 5)) (248 + (M2 246 3)) 2 ((up2 (up2 (up2 M2 246 3 ((M2 246 3) + 1)) (248 + (M2 246 3)) 0 (M2 246 4)) (248 + (M2 246 3)) 1 ((up2 (up2 M2 246 3 ((M2 246 3) + 1)) (248 + (M2 246 3)) 0 (M2 246 4)) 246 5)) (6 + ((up2 (up2 (up2 M2 246 3 ((M2 246 3) + 1)) (248 + (M2 246 3)) 0 (M2 246 4)) (248 + (M2 246 3)) 1 ((up2 (up2 M2 246 3 ((M2 246 3) + 1)) (248 + (M2 246 3)) 0 (M2 246 4)) 246 5)) 246 4)) ((up2 (up2 (up2 M2 246 3 ((M2 246 3) + 1)) (248 + (M2 246 3)) 0 (M2 246 4)) (248 + (M2 246 3)) 1 ((up2 (up2 M2 246 3 ((M2 246 3) + 1)) (248 + (M2 246 3)) 0 (M2 246 4)) 246 5)) 246 6))) (248 + (M2 246 3)) 3 l1) 246 4) * 6) + ((up2 (up2 (up2 (up2 (up2 M2 246 3 ((M2 246 3) + 1)) (248 + (M2 246 3)) 0 (M2 246 4)) (248 + (M2 246 3)) 1 ((up2 (up2 M2 246 3 ((M2 246 3) + 1)) (248 + (M2 246 3)) 0 (M2 246 4)) 246 5)) (248 + (M2 246 3)) 2 ((up2 (up2 (up2 M2 246 3 ((M2 246 3) + 1)) (248 + (M2 246 3)) 0 (M2 246 4)) (248 + (M2 246 3)) 1 ((up2 (up2 M2 246 3 ((M2 246 3) + 1)) (248 + (M2 246 3)) 0 (M2 246 4)) 246 5)) (6 + ((up2 (up2 (up2 M2 246 3 ((M2 246 3) + 1)) (248 + (M2 246 3)) 0 (M2 246 4)) (248 + (M2 246 3)) 1 ((up2 (up2 M2 246 3 ((M2 246 3) + 1)) (248 + (M2 246 3)) 0 (M2 246 4)) 246 5)) 246 4)) ((up2 (up2 (up2 M2 246 3 ((M2 246 3) + 1)) (248 + (M2 246 3)) 0 (M2 246 4)) (248 + (M2 246 3)) 1 ((up2 (up2 M2 246 3 ((M2 246 3) + 1)) (248 + (M2 246 3)) 0 (M2 246 4)) 246 5)) 246 6))) (248 + (M2 246 3)) 3 l1) 246 5))) ((up2 (up2 (up2 (up2 (up2 M2 246 3 ((M2 246 3) + 1)) (248 + (M2 246 3)) 0 (M2 246 4)) (248 + (M2 246 3)) 1 ((up2 (up2 M2 246 3 ((M2 246 3) + 1)) (248 + (M2 246 3)) 0 (M2 246 4)) 246 5)) (248 + (M2 246 3)) 2 ((up2 (up2 (up2 M2 246 3 ((M2 246 3) + 1)) (248 + (M2 246 3)) 0 (M2 246 4)) (248 + (M2 246 3)) 1 ((up2 (up2 M2 246 3 ((M2 246 3) + 1)) (248 + (M2 246 3)) 0 (M2 246 4)) 246 5)) (6 + ((up2 (up2 (up2 M2 246 3 ((M2 246 3) + 1)) (248 + (M2 246 3)) 0 (M2 246 4)) (248 + (M2 246 3)) 1 ((up2 (up2 M2 246 3 ((M2 246 3) + 1)) (248 + (M2 246 3)) 0 (M2 246 4)) 246 5)) 246 4)) ((up2 (up2 (up2 M2 246 3 ((M2 246 3) + 1)) (248 + (M2 246 3)) 0 (M2 246 4)) (248 + (M2 246 3)) 1 ((up2 (up2 M2 246 3 ((M2 246 3) + 1)) (248 + (M2 246 3)) 0 (M2 246 4)) 246 5)) 246 6))) (248 + (M2 246 3)) 3 l1) 246 6))) 246 4) * 6) + ((up2 (up2 (up2 (up2 (up2 (up2 M2 246 3 ((M2 246 3) + 1)) (248 + (M2 246 3)) 0 (M2 246 4)) (248 + (M2 246 3)) 1 ((up2 (up2 M2 246 3 ((M2 246 3) + 1)) (248 + (M2 246 3)) 0 (M2 246 4)) 246 5)) (248 + (M2 246 3)) 2 ((up2 (up2 (up2 M2 246 3 ((M2 246 3) + 1)) (248 + (M2 246 3)) 0 (M2 246 4)) (248 + (M2 246 3)) 1 ((up2 (up2 M2 246 3 ((M2 246 3) + 1)) (248 + (M2 246 3)) 0 (M2 246 4)) 246 5)) (6 + ((up2 (up2 (up2 M2 246 3 ((M2 246 3) + 1)) (248 + (M2 246 3)) 0 (M2 246 4)) (248 + (M2 246 3)) 1 ((up2 (up2 M2 246 3 ((M2 246 3) + 1)) (248 + (M2 246 3)) 0 (M2 246 4)) 246 5)) 246 4)) ((up2 (up2 (up2 M2 246 3 ((M2 246 3) + 1)) (248 + (M2 246 3)) 0 (M2 246 4)) (248 + (M2 246 3)) 1 ((up2 (up2 M2 246 3 ((M2 246 3) + 1)) (248 + (M2 246 3)) 0 (M2 246 4)) 246 5)) 246 6))) (248 + (M2 246 3)) 3 l1) (248 + (M2 246 3)) 4 ((up2 (up2 (up2 (up2 (up2 M2 246 3 ((M2 246 3) + 1)) (248 + (M2 246 3)) 0 (M2 246 4)) (248 + (M2 246 3)) 1 ((up2 (up2 M2 246 3 ((M2 246 3) + 1)) (248 + (M2 246 3)) 0 (M2 246 4)) 246 5)) (248 + (M2 246 3)) 2 ((up2 (up2 (up2 M2 246 3 ((M2 246 3) + 1)) (248 + (M2 246 3)) 0 (M2 246 4)) (248 + (M2 246 3)) 1 ((up2 (up2 M2 246 3 ((M2 246 3) + 1)) (248 + (M2 246 3)) 0 (M2 246 4)) 246 5)) (6 + ((up2 (up2 (up2 M2 246 3 ((M2 246 3) + 1)) (248 + (M2 246 3)) 0 (M2 246 4)) (248 + (M2 246 3)) 1 ((up2 (up2 M2 246 3 ((M2 246 3) + 1)) (248 + (M2 246 3)) 0 (M2 246 4)) 246 5)) 246 4)) ((up2 (up2 (up2 M2 246 3 ((M2 246 3) + 1)) (248 + (M2 246 3)) 0 (M2 246 4)) (248 + (M2 246 3)) 1 ((up2 (up2 M2 246 3 ((M2 246 3) + 1)) (248 + (M2 246 3)) 0 (M2 246 4)) 246 5)) 246 6))) (248 + (M2 246 3)) 3 l1) (15 + ((((up2 (up2 (up2 (up2 (up2 M2 246 3 ((M2 246 3) + 1)) (248 + (M2 246 3)) 0 (M2 246 4)) (248 + (M2 246 3)) 1 ((up2 (up2 M2 246 3 ((M2 246 3) + 1)) (248 + (M2 246 3)) 0 (M2 246 4)) 246 5)) (248 + (M2 246 3)) 2 ((up2 (up2 (up2 M2 246 3 ((M2 246 3) + 1)) (248 + (M2 246 3)) 0 (M2 246 4)) (248 + (M2 246 3)) 1 ((up2 (up2 M2 246 3 ((M2 246 3) + 1)) (248 + (M2 246 3)) 0 (M2 246 4)) 246 5)) (6 + ((up2 (up2 (up2 M2 246 3 ((M2 246 3) + 1)) (248 + (M2 246 3)) 0 (M2 246 4)) (248 + (M2 246 3)) 1 ((up2 (up2 M2 246 3 ((M2 246 3) + 1)) (248 + (M2 246 3)) 0 (M2 246 4)) 246 5)) 246 4)) ((up2 (up2 (up2 M2 246 3 ((M2 246 3) + 1)) (248 + (M2 246 3)) 0 (M2 246 4)) (248 + (M2 246 3)) 1 ((up2 (up2 M2 246 3 ((M2 246 3) + 1)) (248 + (M2 246 3)) 0 (M2 246 4)) 246 5)) 246 6))) (248 + (M2 246 3)) 3 l1) 246 4) * 6) + ((up2 (up2 (up2 (up2 (up2 M2 246 3 ((M2 246 3) + 1)) (248 + (M2 246 3)) 0 (M2 246 4)) (248 + (M2 246 3)) 1 ((up2 (up2 M2 246 3 ((M2 246 3) + 1)) (248 + (M2 246 3)) 0 (M2 246 4)) 246 5)) (248 + (M2 246 3)) 2 ((up2 (up2 (up2 M2 246 3 ((M2 246 3) + 1)) (248 + (M2 246 3)) 0 (M2 246 4)) (248 + (M2 246 3)) 1 ((up2 (up2 M2 246 3 ((M2 246 3) + 1)) (248 + (M2 246 3)) 0 (M2 246 4)) 246 5)) (6 + ((up2 (up2 (up2 M2 246 3 ((M2 246 3) + 1)) (248 + (M2 246 3)) 0 (M2 246 4)) (248 + (M2 246 3)) 1 ((up2 (up2 M2 246 3 ((M2 246 3) + 1)) (248 + (M2 246 3)) 0 (M2 246 4)) 246 5)) 246 4)) ((up2 (up2 (up2 M2 246 3 ((M2 246 3) + 1)) (248 + (M2 246 3)) 0 (M2 246 4)) (248 + (M2 246 3)) 1 ((up2 (up2 M2 246 3 ((M2 246 3) + 1)) (248 + (M2 246 3)) 0 (M2 246 4)) 246 5)) 246 6))) (248 + (M2 246 3)) 3 l1) 246 5))) ((up2 (up2 (up2 (up2 (up2 M2 246 3 ((M2 246 3) + 1)) (248 + (M2 246 3)) 0 (M2 246 4)) (248 + (M2 246 3)) 1 ((up2 (up2 M2 246 3 ((M2 246 3) + 1)) (248 + (M2 246 3)) 0 (M2 246 4)) 246 5)) (248 + (M2 246 3)) 2 ((up2 (up2 (up2 M2 246 3 ((M2 246 3) + 1)) (248 + (M2 246 3)) 0 (M2 246 4)) (248 + (M2 246 3)) 1 ((up2 (up2 M2 246 3 ((M2 246 3) + 1)) (248 + (M2 246 3)) 0 (M2 246 4)) 246 5)) (6 + ((up2 (up2 (up2 M2 246 3 ((M2 246 3) + 1)) (248 + (M2 246 3)) 0 (M2 246 4)) (248 + (M2 246 3)) 1 ((up2 (up2 M2 246 3 ((M2 246 3) + 1)) (248 + (M2 246 3)) 0 (M2 246 4)) 246 5)) 246 4)) ((up2 (up2 (up2 M2 246 3 ((M2 246 3) + 1)) (248 + (M2 246 3)) 0 (M2 246 4)) (248 + (M2 246 3)) 1 ((up2 (up2 M2 246 3 ((M2 246 3) + 1)) (248 + (M2 246 3)) 0 (M2 246 4)) 246 5)) 246 6))) (248 + (M2 246 3)) 3 l1) 246 6))) 246 5) ∧ (((up2 (up2 (up2 (up2 (up2 (up2 M2 246 3 ((M2 246 3) + 1)) (248 + (M2 246 3)) 0 (M2 246 4)) (248 + (M2 246 3)) 1 ((up2 (up2 M2 246 3 ((M2 246 3) + 1)) (248 + (M2 246 3)) 0 (M2 246 4)) 246 5)) (248 + (M2 246 3)) 2 ((up2 (up2 (up2 M2 246 3 ((M2 246 3) + 1)) (248 + (M2 246 3)) 0 (M2 246 4)) (248 + (M2 246 3)) 1 ((up2 (up2 M2 246 3 ((M2 246 3) + 1)) (248 + (M2 246 3)) 0 (M2 246 4)) 246 5)) (6 + ((up2 (up2 (up2 M2 246 3 ((M2 246 3) + 1)) (248 + (M2 246 3)) 0 (M2 246 4)) (248 + (M2 246 3)) 1 ((up2 (up2 M2 246 3 ((M2 246 3) + 1)) (248 + (M2 246 3)) 0 (M2 246 4)) 246 5)) 246 4)) ((up2 (up2 (up2 M2 246 3 ((M2 246 3) + 1)) (248 + (M2 246 3)) 0 (M2 246 4)) (248 + (M2 246 3)) 1 ((up2 (up2 M2 246 3 ((M2 246 3) + 1)) (248 + (M2 246 3)) 0 (M2 246 4)) 246 5)) 246 6))) (248 + (M2 246 3)) 3 l1) (248 + (M2 246 3)) 4 ((up2 (up2 (up2 (up2 (up2 M2 246 3 ((M2 246 3) + 1)) (248 + (M2 246 3)) 0 (M2 246 4)) (248 + (M2 246 3)) 1 ((up2 (up2 M2 246 3 ((M2 246 3) + 1)) (248 + (M2 246 3)) 0 (M2 246 4)) 246 5)) (248 + (M2 246 3)) 2 ((up2 (up2 (up2 M2 246 3 ((M2 246 3) + 1)) (248 + (M2 246 3)) 0 (M2 246 4)) (248 + (M2 246 3)) 1 ((up2 (up2 M2 246 3 ((M2 246 3) + 1)) (248 + (M2 246 3)) 0 (M2 246 4)) 246 5)) (6 + ((up2 (up2 (up2 M2 246 3 ((M2 246 3) + 1)) (248 + (M2 246 3)) 0 (M2 246 4)) (248 + (M2 246 3)) 1 ((up2 (up2 M2 246 3 ((M2 246 3) + 1)) (248 + (M2 246 3)) 0 (M2 246 4)) 246 5)) 246 4)) ((up2 (up2 (up2 M2 246 3 ((M2 246 3) + 1)) (248 + (M2 246 3)) 0 (M2 246 4)) (248 + (M2 246 3)) 1 ((up2 (up2 M2 246 3 ((M2 246 3) + 1)) (248 + (M2 246 3)) 0 (M2 246 4)) 246 5)) 246 6))) (248 + (M2 246 3)) 3 l1) (15 + ((((up2 (up2 (up2 (up2 (up2 M2 246 3 ((M2 246 3) + 1)) (248 + (M2 246 3)) 0 (M2 246 4)) (248 + (M2 246 3)) 1 ((up2 (up2 M2 246 3 ((M2 246 3) + 1)) (248 + (M2 246 3)) 0 (M2 246 4)) 246 5)) (248 + (M2 246 3)) 2 ((up2 (up2 (up2 M2 246 3 ((M2 246 3) + 1)) (248 + (M2 246 3)) 0 (M2 246 4)) (248 + (M2 246 3)) 1 ((up2 (up2 M2 246 3 ((M2 246 3) + 1)) (248 + (M2 246 3)) 0 (M2 246 4)) 246 5)) (6 + ((up2 (up2 (up2 M2 246 3 ((M2 246 3) + 1)) (248 + (M2 246 3)) 0 (M2 246 4)) (248 + (M2 246 3)) 1 ((up2 (up2 M2 246 3 ((M2 246 3) + 1)) (248 + (M2 246 3)) 0 (M2 246 4)) 246 5)) 246 4)) ((up2 (up2 (up2 M2 246 3 ((M2 246 3) + 1)) (248 + (M2 246 3)) 0 (M2 246 4)) (248 + (M2 246 3)) 1 ((up2 (up2 M2 246 3 ((M2 246 3) + 1)) (248 + (M2 246 3)) 0 (M2 246 4)) 246 5)) 246 6))) (248 + (M2 246 3)) 3 l1) 246 4) * 6) + ((up2 (up2 (up2 (up2 (up2 M2 246 3 ((M2 246 3) + 1)) (248 + (M2 246 3)) 0 (M2 246 4)) (248 + (M2 246 3)) 1 ((up2 (up2 M2 246 3 ((M2 246 3) + 1)) (248 + (M2 246 3)) 0 (M2 246 4)) 246 5)) (248 + (M2 246 3)) 2 ((up2 (up2 (up2 M2 246 3 ((M2 246 3) + 1)) (248 + (M2 246 3)) 0 (M2 246 4)) (248 + (M2 246 3)) 1 ((up2 (up2 M2 246 3 ((M2 246 3) + 1)) (248 + (M2 246 3)) 0 (M2 246 4)) 246 5)) (6 + ((up2 (up2 (up2 M2 246 3 ((M2 246 3) + 1)) (248 + (M2 246 3)) 0 (M2 246 4)) (248 + (M2 246 3)) 1 ((up2 (up2 M2 246 3 ((M2 246 3) + 1)) (248 + (M2 246 3)) 0 (M2 246 4)) 246 5)) 246 4)) ((up2 (up2 (up2 M2 246 3 ((M2 246 3) + 1)) (248 + (M2 246 3)) 0 (M2 246 4)) (248 + (M2 246 3)) 1 ((up2 (up2 M2 246 3 ((M2 246 3) + 1)) (248 + (M2 246 3)) 0 (M2 246 4)) 246 5)) 246 6))) (248 + (M2 246 3)) 3 l1) 246 5))) ((up2 (up2 (up2 (up2 (up2 M2 246 3 ((M2 246 3) + 1)) (248 + (M2 246 3)) 0 (M2 246 4)) (248 + (M2 246 3)) 1 ((up2 (up2 M2 246 3 ((M2 246 3) + 1)) (248 + (M2 246 3)) 0 (M2 246 4)) 246 5)) (248 + (M2 246 3)) 2 ((up2 (up2 (up2 M2 246 3 ((M2 246 3) + 1)) (248 + (M2 246 3)) 0 (M2 246 4)) (248 + (M2 246 3)) 1 ((up2 (up2 M2 246 3 ((M2 246 3) + 1)) (248 + (M2 246 3)) 0 (M2 246 4)) 246 5)) (6 + ((up2 (up2 (up2 M2 246 3 ((M2 246 3) + 1)) (248 + (M2 246 3)) 0 (M2 246 4)) (248 + (M2 246 3)) 1 ((up2 (up2 M2 246 3 ((M2 246 3) + 1)) (248 + (M2 246 3)) 0 (M2 246 4)) 246 5)) 246 4)) ((up2 (up2 (up2 M2 246 3 ((M2 246 3) + 1)) (248 + (M2 246 3)) 0 (M2 246 4)) (248 + (M2 246 3)) 1 ((up2 (up2 M2 246 3 ((M2 246 3) + 1)) (248 + (M2 246 3)) 0 (M2 246 4)) 246 5)) 246 6))) (248 + (M2 246 3)) 3 l1) 246 6))) 246 4) * 6) + ((up2 (up2 (up2 (up2 (up2 (up2 M2 246 3 ((M2 246 3) + 1)) (248 + (M2 246 3)) 0 (M2 246 4)) (248 + (M2 246 3)) 1 ((up2 (up2 M2 246 3 ((M2 246 3) + 1)) (248 + (M2 246 3)) 0 (M2 246 4)) 246 5)) (248 + (M2 246 3)) 2 ((up2 (up2 (up2 M2 246 3 ((M2 246 3) + 1)) (248 + (M2 246 3)) 0 (M2 246 4)) (248 + (M2 246 3)) 1 ((up2 (up2 M2 246 3 ((M2 246 3) + 1)) (248 + (M2 246 3)) 0 (M2 246 4)) 246 5)) (6 + ((up2 (up2 (up2 M2 246 3 ((M2 246 3) + 1)) (248 + (M2 246 3)) 0 (M2 246 4)) (248 + (M2 246 3)) 1 ((up2 (up2 M2 246 3 ((M2 246 3) + 1)) (248 + (M2 246 3)) 0 (M2 246 4)) 246 5)) 246 4)) ((up2 (up2 (up2 M2 246 3 ((M2 246 3) + 1)) (248 + (M2 246 3)) 0 (M2 246 4)) (248 + (M2 246 3)) 1 ((up2 (up2 M2 246 3 ((M2 246 3) + 1)) (248 + (M2 246 3)) 0 (M2 246 4)) 246 5)) 246 6))) (248 + (M2 246 3)) 3 l1) (248 + (M2 246 3)) 4 ((up2 (up2 (up2 (up2 (up2 M2 246 3 ((M2 246 3) + 1)) (248 + (M2 246 3)) 0 (M2 246 4)) (248 + (M2 246 3)) 1 ((up2 (up2 M2 246 3 ((M2 246 3) + 1)) (248 + (M2 246 3)) 0 (M2 246 4)) 246 5)) (248 + (M2 246 3)) 2 ((up2 (up2 (up2 M2 246 3 ((M2 246 3) + 1)) (248 + (M2 246 3)) 0 (M2 246 4)) (248 + (M2 246 3)) 1 ((up2 (up2 M2 246 3 ((M2 246 3) + 1)) (248 + (M2 246 3)) 0 (M2 246 4)) 246 5)) (6 + ((up2 (up2 (up2 M2 246 3 ((M2 246 3) + 1)) (248 + (M2 246 3)) 0 (M2 246 4)) (248 + (M2 246 3)) 1 ((up2 (up2 M2 246 3 ((M2 246 3) + 1)) (248 + (M2 246 3)) 0 (M2 246 4)) 246 5)) 246 4)) ((up2 (up2 (up2 M2 246 3 ((M2 246 3) + 1)) (248 + (M2 246 3)) 0 (M2 246 4)) (248 + (M2 246 3)) 1 ((up2 (up2 M2 246 3 ((M2 246 3) + 1)) (248 + (M2 246 3)) 0 (M2 246 4)) 246 5)) 246 6))) (248 + (M2 246 3)) 3 l1) (15 + ((((up2 (up2 (up2 (up2 (up2 M2 246 3 ((M2 246 3) + 1)) (248 + (M2 246 3)) 0 (M2 246 4)) (248 + (M2 246 3)) 1 ((up2 (up2 M2 246 3 ((M2 246 3) + 1)) (248 + (M2 246 3)) 0 (M2 246 4)) 246 5)) (248 + (M2 246 3)) 2 ((up2 (up2 (up2 M2 246 3 ((M2 246 3) + 1)) (248 + (M2 246 3)) 0 (M2 246 4)) (248 + (M2 246 3)) 1 ((up2 (up2 M2 246 3 ((M2 246 3) + 1)) (248 + (M2 246 3)) 0 (M2 246 4)) 246 5)) (6 + ((up2 (up2 (up2 M2 246 3 ((M2 246 3) + 1)) (248 + (M2 246 3)) 0 (M2 246 4)) (248 + (M2 246 3)) 1 ((up2 (up2 M2 246 3 ((M2 246 3) + 1)) (248 + (M2 246 3)) 0 (M2 246 4)) 246 5)) 246 4)) ((up2 (up2 (up2 M2 246 3 ((M2 246 3) + 1)) (248 + (M2 246 3)) 0 (M2 246 4)) (248 + (M2 246 3)) 1 ((up2 (up2 M2 246 3 ((M2 246 3) + 1)) (248 + (M2 246 3)) 0 (M2 246 4)) 246 5)) 246 6))) (248 + (M2 246 3)) 3 l1) 246 4) * 6) + ((up2 (up2 (up2 (up2 (up2 M2 246 3 ((M2 246 3) + 1)) (248 + (M2 246 3)) 0 (M2 246 4)) (248 + (M2 246 3)) 1 ((up2 (up2 M2 246 3 ((M2 246 3) + 1)) (248 + (M2 246 3)) 0 (M2 246 4)) 246 5)) (248 + (M2 246 3)) 2 ((up2 (up2 (up2 M2 246 3 ((M2 246 3) + 1)) (248 + (M2 246 3)) 0 (M2 246 4)) (248 + (M2 246 3)) 1 ((up2 (up2 M2 246 3 ((M2 246 3) + 1)) (248 + (M2 246 3)) 0 (M2 246 4)) 246 5)) (6 + ((up2 (up2 (up2 M2 246 3 ((M2 246 3) + 1)) (248 + (M2 246 3)) 0 (M2 246 4)) (248 + (M2 246 3)) 1 ((up2 (up2 M2 246 3 ((M2 246 3) + 1)) (248 + (M2 246 3)) 0 (M2 246 4)) 246 5)) 246 4)) ((up2 (up2 (up2 M2 246 3 ((M2 246 3) + 1)) (248 + (M2 246 3)) 0 (M2 246 4)) (248 + (M2 246 3)) 1 ((up2 (up2 M2 246 3 ((M2 246 3) + 1)) (248 + (M2 246 3)) 0 (M2 246 4)) 246 5)) 246 6))) (248 + (M2 246 3)) 3 l1) 246 5))) ((up2 (up2 (up2 (up2 (up2 M2 246 3 ((M2 246 3) + 1)) (248 + (M2 246 3)) 0 (M2 246 4)) (248 + (M2 246 3)) 1 ((up2 (up2 M2 246 3 ((M2 246 3) + 1)) (248 + (M2 246 3)) 0 (M2 246 4)) 246 5)) (248 + (M2 246 3)) 2 ((up2 (up2 (up2 M2 246 3 ((M2 246 3) + 1)) (248 + (M2 246 3)) 0 (M2 246 4)) (248 + (M2 246 3)) 1 ((up2 (up2 M2 246 3 ((M2 246 3) + 1)) (248 + (M2 246 3)) 0 (M2 246 4)) 246 5)) (6 + ((up2 (up2 (up2 M2 246 3 ((M2 246 3) + 1)) (248 + (M2 246 3)) 0 (M2 246 4)) (248 + (M2 246 3)) 1 ((up2 (up2 M2 246 3 ((M2 246 3) + 1)) (248 + (M2 246 3)) 0 (M2 246 4)) 246 5)) 246 4)) ((up2 (up2 (up2 M2 246 3 ((M2 246 3) + 1)) (248 + (M2 246 3)) 0 (M2 246 4)) (248 + (M2 246 3)) 1 ((up2 (up2 M2 246 3 ((M2 246 3) + 1)) (248 + (M2 246 3)) 0 (M2 246 4)) 246 5)) 246 6))) (248 + (M2 246 3)) 3 l1) 246 6))) 246 5) ≤ 2147483647) ∧ ((0 : Int) ≤ (((up2 (up2 (up2 (up2 (up2 (up2 M2 246 3 ((M2 246 3) + 1)) (248 + (M2 246 3)) 0 (M2 246 4)) (248 + (M2 246 3)) 1 ((up2 (up2 M2 246 3 ((M2 246 3) + 1)) (248 + (M2 246 3)) 0 (M2 246 4)) 246 5)) (248 + (M2 246 3)) 2 ((up2 (up2 (up2 M2 246 3 ((M2 246 3) + 1)) (248 + (M2 246 3)) 0 (M2 246 4)) (248 + (M2 246 3)) 1 ((up2 (up2 M2 246 3 ((M2 246 3) + 1)) (248 + (M2 246 3)) 0 (M2 246 4)) 246 5)) (6 + ((up2 (up2 (up2 M2 246 3 ((M2 246 3) + 1)) (248 + (M2 246 3)) 0 (M2 246 4)) (248 + (M2 246 3)) 1 ((up2 (up2 M2 246 3 ((M2 246 3) + 1)) (248 + (M2 246 3)) 0 (M2 246 4)) 246 5)) 246 4)) ((up2 (up2 (up2 M2 246 3 ((M2 246 3) + 1)) (248 + (M2 246 3)) 0 (M2 246 4)) (248 + (M2 246 3)) 1 ((up2 (up2 M2 246 3 ((M2 246 3) + 1)) (248 + (M2 246 3)) 0 (M2 246 4)) 246 5)) 246 6))) (248 + (M2 246 3)) 3 l1) (248 + (M2 246 3)) 4 ((up2 (up2 (up2 (up2 (up2 M2 246 3 ((M2 246 3) + 1)) (248 + (M2 246 3)) 0 (M2 246 4)) (248 + (M2 246 3)) 1 ((up2 (up2 M2 246 3 ((M2 246 3) + 1)) (248 + (M2 246 3)) 0 (M2 246 4)) 246 5)) (248 + (M2 246 3)) 2 ((up2 (up2 (up2 M2 246 3 ((M2 246 3) + 1)) (248 + (M2 246 3)) 0 (M2 246 4)) (248 + (M2 246 3)) 1 ((up2 (up2 M2 246 3 ((M2 246 3) + 1)) (248 + (M2 246 3)) 0 (M2 246 4)) 246 5)) (6 + ((up2 (up2 (up2 M2 246 3 ((M2 246 3) + 1)) (248 + (M2 246 3)) 0 (M2 246 4)) (248 + (M2 246 3)) 1 ((up2 (up2 M2 246 3 ((M2 246 3) + 1)) (248 + (M2 246 3)) 0 (M2 246 4)) 246 5)) 246 4)) ((up2 (up2 (up2 M2 246 3 ((M2 246 3) + 1)) (248 + (M2 246 3)) 0 (M2 246 4)) (248 + (M2 246 3)) 1 ((up2 (up2 M2 246 3 ((M2 246 3) + 1)) (248 + (M2 246 3)) 0 (M2 246 4)) 246 5)) 246 6))) (248 + (M2 246 3)) 3 l1) (15 + ((((up2 (up2 (up2 (up2 (up2 M2 246 3 ((M2 246 3) + 1)) (248 + (M2 246 3)) 0 (M2 246 4)) (248 + (M2 246 3)) 1 ((up2 (up2 M2 246 3 ((M2 246 3) + 1)) (248 + (M2 246 3)) 0 (M2 246 4)) 246 5)) (248 + (M2 246 3)) 2 ((up2 (up2 (up2 M2 246 3 ((M2 246 3) + 1)) (248 + (M2 246 3)) 0 (M2 246 4)) (248 + (M2 246 3)) 1 ((up2 (up2 M2 246 3 ((M2 246 3) + 1)) (248 + (M2 246 3)) 0 (M2 246 4)) 246 5)) (6 + ((up2 (up2 (up2 M2 246 3 ((M2 246 3) + 1)) (248 + (M2 246 3)) 0 (M2 246 4)) (248 + (M2 246 3)) 1 ((up2 (up2 M2 246 3 ((M2 246 3) + 1)) (248 + (M2 246 3)) 0 (M2 246 4)) 246 5)) 246 4)) ((up2 (up2 (up2 M2 246 3 ((M2 246 3) + 1)) (248 + (M2 246 3)) 0 (M2 246 4)) (248 + (M2 246 3)) 1 ((up2 (up2 M2 246 3 ((M2 246 3) + 1)) (248 + (M2 246 3)) 0 (M2 246 4)) 246 5)) 246 6))) (248 + (M2 246 3)) 3 l1) 246 4) * 6) + ((up2 (up2 (up2 (up2 (up2 M2 246 3 ((M2 246 3) + 1)) (248 + (M2 246 3)) 0 (M2 246 4)) (248 + (M2 246 3)) 1 ((up2 (up2 M2 246 3 ((M2 246 3) + 1)) (248 + (M2 246 3)) 0 (M2 246 4)) 246 5)) (248 + (M2 246 3)) 2 ((up2 (up2 (up2 M2 246 3 ((M2 246 3) + 1)) (248 + (M2 246 3)) 0 (M2 246 4)) (248 + (M2 246 3)) 1 ((up2 (up2 M2 246 3 ((M2 246 3) + 1)) (248 + (M2 246 3)) 0 (M2 246 4)) 246 5)) (6 + ((up2 (up2 (up2 M2 246 3 ((M2 246 3) + 1)) (248 + (M2 246 3)) 0 (M2 246 4)) (248 + (M2 246 3)) 1 ((up2 (up2 M2 246 3 ((M2 246 3) + 1)) (248 + (M2 246 3)) 0 (M2 246 4)) 246 5)) 246 4)) ((up2 (up2 (up2 M2 246 3 ((M2 246 3) + 1)) (248 + (M2 246 3)) 0 (M2 246 4)) (248 + (M2 246 3)) 1 ((up2 (up2 M2 246 3 ((M2 246 3) + 1)) (248 + (M2 246 3)) 0 (M2 246 4)) 246 5)) 246 6))) (248 + (M2 246 3)) 3 l1) 246 5))) ((up2 (up2 (up2 (up2 (up2 M2 246 3 ((M2 246 3) + 1)) (248 + (M2 246 3)) 0 (M2 246 4)) (248 + (M2 246 3)) 1 ((up2 (up2 M2 246 3 ((M2 246 3) + 1)) (248 + (M2 246 3)) 0 (M2 246 4)) 246 5)) (248 + (M2 246 3)) 2 ((up2 (up2 (up2 M2 246 3 ((M2 246 3) + 1)) (248 + (M2 246 3)) 0 (M2 246 4)) (248 + (M2 246 3)) 1 ((up2 (up2 M2 246 3 ((M2 246 3) + 1)) (248 + (M2 246 3)) 0 (M2 246 4)) 246 5)) (6 + ((up2 (up2 (up2 M2 246 3 ((M2 246 3) + 1)) (248 + (M2 246 3)) 0 (M2 246 4)) (248 + (M2 246 3)) 1 ((up2 (up2 M2 246 3 ((M2 246 3) + 1)) (248 + (M2 246 3)) 0 (M2 246 4)) 246 5)) 246 4)) ((up2 (up2 (up2 M2 246 3 ((M2 246 3) + 1)) (248 + (M2 246 3)) 0 (M2 246 4)) (248 + (M2 246 3)) 1 ((up2 (up2 M2 246 3 ((M2 246 3) + 1)) (248 + (M2 246 3)) 0 (M2 246 4)) 246 5)) 246 6))) (248 + (M2 246 3)) 3 l1) 246 6))) 246 4) * 6) + ((up2 (up2 (up2 (up2 (up2 (up2 M2 246 3 ((M2 246 3) + 1)) (248 + (M2 246 3)) 0 (M2 246 4)) (248 + (M2 246 3)) 1 ((up2 (up2 M2 246 3 ((M2 246 3) + 1)) (248 + (M2 246 3)) 0 (M2 246 4)) 246 5)) (248 + (M2 246 3)) 2 ((up2 (up2 (up2 M2 246 3 ((M2 246 3) + 1)) (248 + (M2 246 3)) 0 (M2 246 4)) (248 + (M2 246 3)) 1 ((up2 (up2 M2 246 3 ((M2 246 3) + 1)) (248 + (M2 246 3)) 0 (M2 246 4)) 246 5)) (6 + ((up2 (up2 (up2 M2 246 3 ((M2 246 3) + 1)) (248 + (M2 246 3)) 0 (M2 246 4)) (248 + (M2 246 3)) 1 ((up2 (up2 M2 246 3 ((M2 246 3) + 1)) (248 + (M2 246 3)) 0 (M2 246 4)) 246 5)) 246 4)) ((up2 (up2 (up2 M2 246 3 ((M2 246 3) + 1)) (248 + (M2 246 3)) 0 (M2 246 4)) (248 + (M2 246 3)) 1 ((up2 (up2 M2 246 3 ((M2 246 3) + 1)) (248 + (M2 246 3)) 0 (M2 246 4)) 246 5)) 246 6))) (248 + (M2 246 3)) 3 l1) (248 + (M2 246 3)) 4 ((up2 (up2 (up2 (up2 (up2 M2 246 3 ((M2 246 3) + 1)) (248 + (M2 246 3)) 0 (M2 246 4)) (248 + (M2 246 3)) 1 ((up2 (up2 M2 246 3 ((M2 246 3) + 1)) (248 + (M2 246 3)) 0 (M2 246 4)) 246 5)) (248 + (M2 246 3)) 2 ((up2 (up2 (up2 M2 246 3 ((M2 246 3) + 1)) (248 + (M2 246 3)) 0 (M2 246 4)) (248 + (M2 246 3)) 1 ((up2 (up2 M2 246 3 ((M2 246 3) + 1)) (248 + (M2 246 3)) 0 (M2 246 4)) 246 5)) (6 + ((up2 (up2 (up2 M2 246 3 ((M2 246 3) + 1)) (248 + (M2 246 3)) 0 (M2 246 4)) (248 + (M2 246 3)) 1 ((up2 (up2 M2 246 3 ((M2 246 3) + 1)) (248 + (M2 246 3)) 0 (M2 246 4)) 246 5)) 246 4)) ((up2 (up2 (up2 M2 246 3 ((M2 246 3) + 1)) (248 + (M2 246 3)) 0 (M2 246 4)) (248 + (M2 246 3)) 1 ((up2 (up2 M2 246 3 ((M2 246 3) + 1)) (248 + (M2 246 3)) 0 (M2 246 4)) 246 5)) 246 6))) (248 + (M2 246 3)) 3 l1) (15 + ((((up2 (up2 (up2 (up2 (up2 M2 246 3 ((M2 246 3) + 1)) (248 + (M2 246 3)) 0 (M2 246 4)) (248 + (M2 246 3)) 1 ((up2 (up2 M2 246 3 ((M2 246 3) + 1)) (248 + (M2 246 3)) 0 (M2 246 4)) 246 5)) (248 + (M2 246 3)) 2 ((up2 (up2 (up2 M2 246 3 ((M2 246 3) + 1)) (248 + (M2 246 3)) 0 (M2 246 4)) (248 + (M2 246 3)) 1 ((up2 (up2 M2 246 3 ((M2 246 3) + 1)) (248 + (M2 246 3)) 0 (M2 246 4)) 246 5)) (6 + ((up2 (up2 (up2 M2 246 3 ((M2 246 3) + 1)) (248 + (M2 246 3)) 0 (M2 246 4)) (248 + (M2 246 3)) 1 ((up2 (up2 M2 246 3 ((M2 246 3) + 1)) (248 + (M2 246 3)) 0 (M2 246 4)) 246 5)) 246 4)) ((up2 (up2 (up2 M2 246 3 ((M2 246 3) + 1)) (248 + (M2 246 3)) 0 (M2 246 4)) (248 + (M2 246 3)) 1 ((up2 (up2 M2 246 3 ((M2 246 3) + 1)) (248 + (M2 246 3)) 0 (M2 246 4)) 246 5)) 246 6))) (248 + (M2 246 3)) 3 l1) 246 4) * 6) + ((up2 (up2 (up2 (up2 (up2 M2 246 3 ((M2 246 3) + 1)) (248 + (M2 246 3)) 0 (M2 246 4)) (248 + (M2 246 3)) 1 ((up2 (up2 M2 246 3 ((M2 246 3) + 1)) (248 + (M2 246 3)) 0 (M2 246 4)) 246 5)) (248 + (M2 246 3)) 2 ((up2 (up2 (up2 M2 246 3 ((M2 246 3) + 1)) (248 + (M2 246 3)) 0 (M2 246 4)) (248 + (M2 246 3)) 1 ((up2 (up2 M2 246 3 ((M2 246 3) + 1)) (248 + (M2 246 3)) 0 (M2 246 4)) 246 5)) (6 + ((up2 (up2 (up2 M2 246 3 ((M2 246 3) + 1)) (248 + (M2 246 3)) 0 (M2 246 4)) (248 + (M2 246 3)) 1 ((up2 (up2 M2 246 3 ((M2 246 3) + 1)) (248 + (M2 246 3)) 0 (M2 246 4)) 246 5)) 246 4)) ((up2 (up2 (up2 M2 246 3 ((M2 246 3) + 1)) (248 + (M2 246 3)) 0 (M2 246 4)) (248 + (M2 246 3)) 1 ((up2 (up2 M2 246 3 ((M2 246 3) + 1)) (248 + (M2 246 3)) 0 (M2 246 4)) 246 5)) 246 6))) (248 + (M2 246 3)) 3 l1) 246 5))) ((up2 (up2 (up2 (up2 (up2 M2 246 3 ((M2 246 3) + 1)) (248 + (M2 246 3)) 0 (M2 246 4)) (248 + (M2 246 3)) 1 ((up2 (up2 M2 246 3 ((M2 246 3) + 1)) (248 + (M2 246 3)) 0 (M2 246 4)) 246 5)) (248 + (M2 246 3)) 2 ((up2 (up2 (up2 M2 246 3 ((M2 246 3) + 1)) (248 + (M2 246 3)) 0 (M2 246 4)) (248 + (M2 246 3)) 1 ((up2 (up2 M2 246 3 ((M2 246 3) + 1)) (248 + (M2 246 3)) 0 (M2 246 4)) 246 5)) (6 + ((up2 (up2 (up2 M2 246 3 ((M2 246 3) + 1)) (248 + (M2 246 3)) 0 (M2 246 4)) (248 + (M2 246 3)) 1 ((up2 (up2 M2 246 3 ((M2 246 3) + 1)) (248 + (M2 246 3)) 0 (M2 246 4)) 246 5)) 246 4)) ((up2 (up2 (up2 M2 246 3 ((M2 246 3) + 1)) (248 + (M2 246 3)) 0 (M2 246 4)) (248 + (M2 246 3)) 1 ((up2 (up2 M2 246 3 ((M2 246 3) + 1)) (248 + (M2 246 3)) 0 (M2 246 4)) 246 5)) 246 6))) (248 + (M2 246 3)) 3 l1) 246 6))) 246 5) ∧ (((up2 (up2 (up2 (up2 (up2 (up2 M2 246 3 ((M2 246 3) + 1)) (248 + (M2 246 3)) 0 (M2 246 4)) (248 + (M2 246 3)) 1 ((up2 (up2 M2 246 3 ((M2 246 3) + 1)) (248 + (M2 246 3)) 0 (M2 246 4)) 246 5)) (248 + (M2 246 3)) 2 ((up2 (up2 (up2 M2 246 3 ((M2 246 3) + 1)) (248 + (M2 246 3)) 0 (M2 246 4)) (248 + (M2 246 3)) 1 ((up2 (up2 M2 246 3 ((M2 246 3) + 1)) (248 + (M2 246 3)) 0 (M2 246 4)) 246 5)) (6 + ((up2 (up2 (up2 M2 246 3 ((M2 246 3) + 1)) (248 + (M2 246 3)) 0 (M2 246 4)) (248 + (M2 246 3)) 1 ((up2 (up2 M2 246 3 ((M2 246 3) + 1)) (248 + (M2 246 3)) 0 (M2 246 4)) 246 5)) 246 4)) ((up2 (up2 (up2 M2 246 3 ((M2 246 3) + 1)) (248 + (M2 246 3)) 0 (M2 246 4)) (248 + (M2 246 3)) 1 ((up2 (up2 M2 246 3 ((M2 246 3) + 1)) (248 + (M2 246 3)) 0 (M2 246 4)) 246 5)) 246 6))) (248 + (M2 246 3)) 3 l1) (248 + (M2 246 3)) 4 ((up2 (up2 (up2 (up2 (up2 M2 246 3 ((M2 246 3) + 1)) (248 + (M2 246 3)) 0 (M2 246 4)) (248 + (M2 246 3)) 1 ((up2 (up2 M2 246 3 ((M2 246 3) + 1)) (248 + (M2 246 3)) 0 (M2 246 4)) 246 5)) (248 + (M2 246 3)) 2 ((up2 (up2 (up2 M2 246 3 ((M2 246 3) + 1)) (248 + (M2 246 3)) 0 (M2 246 4)) (248 + (M2 246 3)) 1 ((up2 (up2 M2 246 3 ((M2 246 3) + 1)) (248 + (M2 246 3)) 0 (M2 246 4)) 246 5)) (6 + ((up2 (up2 (up2 M2 246 3 ((M2 246 3) + 1)) (248 + (M2 246 3)) 0 (M2 246 4)) (248 + (M2 246 3)) 1 ((up2 (up2 M2 246 3 ((M2 246 3) + 1)) (248 + (M2 246 3)) 0 (M2 246 4)) 246 5)) 246 4)) ((up2 (up2 (up2 M2 246 3 ((M2 246 3) + 1)) (248 + (M2 246 3)) 0 (M2 246 4)) (248 + (M2 246 3)) 1 ((up2 (up2 M2 246 3 ((M2 246 3) + 1)) (248 + (M2 246 3)) 0 (M2 246 4)) 246 5)) 246 6))) (248 + (M2 246 3)) 3 l1) (15 + ((((up2 (up2 (up2 (up2 (up2 M2 246 3 ((M2 246 3) + 1)) (248 + (M2 246 3)) 0 (M2 246 4)) (248 + (M2 246 3)) 1 ((up2 (up2 M2 246 3 ((M2 246 3) + 1)) (248 + (M2 246 3)) 0 (M2 246 4)) 246 5)) (248 + (M2 246 3)) 2 ((up2 (up2 (up2 M2 246 3 ((M2 246 3) + 1)) (248 + (M2 246 3)) 0 (M2 246 4)) (248 + (M2 246 3)) 1 ((up2 (up2 M2 246 3 ((M2 246 3) + 1)) (248 + (M2 246 3)) 0 (M2 246 4)) 246 5)) (6 + ((up2 (up2 (up2 M2 246 3 ((M2 246 3) + 1)) (248 + (M2 246 3)) 0 (M2 246 4)) (248 + (M2 246 3)) 1 ((up2 (up2 M2 246 3 ((M2 246 3) + 1)) (248 + (M2 246 3)) 0 (M2 246 4)) 246 5)) 246 4)) ((up2 (up2 (up2 M2 246 3 ((M2 246 3) + 1)) (248 + (M2 246 3)) 0 (M2 246 4)) (248 + (M2 246 3)) 1 ((up2 (up2 M2 246 3 ((M2 246 3) + 1)) (248 + (M2 246 3)) 0 (M2 246 4)) 246 5)) 246 6))) (248 + (M2 246 3)) 3 l1) 246 4) * 6) + ((up2 (up2 (up2 (up2 (up2 M2 246 3 ((M2 246 3) + 1)) (248 + (M2 246 3)) 0 (M2 246 4)) (248 + (M2 246 3)) 1 ((up2 (up2 M2 246 3 ((M2 246 3) + 1)) (248 + (M2 246 3)) 0 (M2 246 4)) 246 5)) (248 + (M2 246 3)) 2 ((up2 (up2 (up2 M2 246 3 ((M2 246 3) + 1)) (248 + (M2 246 3)) 0 (M2 246 4)) (248 + (M2 246 3)) 1 ((up2 (up2 M2 246 3 ((M2 246 3) + 1)) (248 + (M2 246 3)) 0 (M2 246 4)) 246 5)) (6 + ((up2 (up2 (up2 M2 246 3 ((M2 246 3) + 1)) (248 + (M2 246 3)) 0 (M2 246 4)) (248 + (M2 246 3)) 1 ((up2 (up2 M2 246 3 ((M2 246 3) + 1)) (248 + (M2 246 3)) 0 (M2 246 4)) 246 5)) 246 4)) ((up2 (up2 (up2 M2 246 3 ((M2 246 3) + 1)) (248 + (M2 246 3)) 0 (M2 246 4)) (248 + (M2 246 3)) 1 ((up2 (up2 M2 246 3 ((M2 246 3) + 1)) (248 + (M2 246 3)) 0 (M2 246 4)) 246 5)) 246 6))) (248 + (M2 246 3)) 3 l1) 246 5))) ((up2 (up2 (up2 (up2 (up2 M2 246 3 ((M2 246 3) + 1)) (248 + (M2 246 3)) 0 (M2 246 4)) (248 + (M2 246 3)) 1 ((up2 (up2 M2 246 3 ((M2 246 3) + 1)) (248 + (M2 246 3)) 0 (M2 246 4)) 246 5)) (248 + (M2 246 3)) 2 ((up2 (up2 (up2 M2 246 3 ((M2 246 3) + 1)) (248 + (M2 246 3)) 0 (M2 246 4)) (248 + (M2 246 3)) 1 ((up2 (up2 M2 246 3 ((M2 246 3) + 1)) (248 + (M2 246 3)) 0 (M2 246 4)) 246 5)) (6 + ((up2 (up2 (up2 M2 246 3 ((M2 246 3) + 1)) (248 + (M2 246 3)) 0 (M2 246 4)) (248 + (M2 246 3)) 1 ((up2 (up2 M2 246 3 ((M2 246 3) + 1)) (248 + (M2 246 3)) 0 (M2 246 4)) 246 5)) 246 4)) ((up2 (up2 (up2 M2 246 3 ((M2 246 3) + 1)) (248 + (M2 246 3)) 0 (M2 246 4)) (248 + (M2 246 3)) 1 ((up2 (up2 M2 246 3 ((M2 246 3) + 1)) (248 + (M2 246 3)) 0 (M2 246 4)) 246 5)) 246 6))) (248 + (M2 246 3)) 3 l1) 246 6))) 246 4) * 6) + ((up2 (up2 (up2 (up2 (up2 (up2 M2 246 3 ((M2 246 3) + 1)) (248 + (M2 246 3)) 0 (M2 246 4)) (248 + (M2 246 3)) 1 ((up2 (up2 M2 246 3 ((M2 246 3) + 1)) (248 + (M2 246 3)) 0 (M2 246 4)) 246 5)) (248 + (M2 246 3)) 2 ((up2 (up2 (up2 M2 246 3 ((M2 246 3) + 1)) (248 + (M2 246 3)) 0 (M2 246 4)) (248 + (M2 246 3)) 1 ((up2 (up2 M2 246 3 ((M2 246 3) + 1)) (248 + (M2 246 3)) 0 (M2 246 4)) 246 5)) (6 + ((up2 (up2 (up2 M2 246 3 ((M2 246 3) + 1)) (248 + (M2 246 3)) 0 (M2 246 4)) (248 + (M2 246 3)) 1 ((up2 (up2 M2 246 3 ((M2 246 3) + 1)) (248 + (M2 246 3)) 0 (M2 246 4)) 246 5)) 246 4)) ((up2 (up2 (up2 M2 246 3 ((M2 246 3) + 1)) (248 + (M2 246 3)) 0 (M2 246 4)) (248 + (M2 246 3)) 1 ((up2 (up2 M2 246 3 ((M2 246 3) + 1)) (248 + (M2 246 3)) 0 (M2 246 4)) 246 5)) 246 6))) (248 + (M2 246 3)) 3 l1) (248 + (M2 246 3)) 4 ((up2 (up2 (up2 (up2 (up2 M2 246 3 ((M2 246 3) + 1)) (248 + (M2 246 3)) 0 (M2 246 4)) (248 + (M2 246 3)) 1 ((up2 (up2 M2 246 3 ((M2 246 3) + 1)) (248 + (M2 246 3)) 0 (M2 246 4)) 246 5)) (248 + (M2 246 3)) 2 ((up2 (up2 (up2 M2 246 3 ((M2 246 3) + 1)) (248 + (M2 246 3)) 0 (M2 246 4)) (248 + (M2 246 3)) 1 ((up2 (up2 M2 246 3 ((M2 246 3) + 1)) (248 + (M2 246 3)) 0 (M2 246 4)) 246 5)) (6 + ((up2 (up2 (up2 M2 246 3 ((M2 246 3) + 1)) (248 + (M2 246 3)) 0 (M2 246 4)) (248 + (M2 246 3)) 1 ((up2 (up2 M2 246 3 ((M2 246 3) + 1)) (248 + (M2 246 3)) 0 (M2 246 4)) 246 5)) 246 4)) ((up2 (up2 (up2 M2 246 3 ((M2 246 3) + 1)) (248 + (M2 246 3)) 0 (M2 246 4)) (248 + (M2 246 3)) 1 ((up2 (up2 M2 246 3 ((M2 246 3) + 1)) (248 + (M2 246 3)) 0 (M2 246 4)) 246 5)) 246 6))) (248 + (M2 246 3)) 3 l1) (15 + ((((up2 (up2 (up2 (up2 (up2 M2 246 3 ((M2 246 3) + 1)) (248 + (M2 246 3)) 0 (M2 246 4)) (248 + (M2 246 3)) 1 ((up2 (up2 M2 246 3 ((M2 246 3) + 1)) (248 + (M2 246 3)) 0 (M2 246 4)) 246 5)) (248 + (M2 246 3)) 2 ((up2 (up2 (up2 M2 246 3 ((M2 246 3) + 1)) (248 + (M2 246 3)) 0 (M2 246 4)) (248 + (M2 246 3)) 1 ((up2 (up2 M2 246 3 ((M2 246 3) + 1)) (248 + (M2 246 3)) 0 (M2 246 4)) 246 5)) (6 + ((up2 (up2 (up2 M2 246 3 ((M2 246 3) + 1)) (248 + (M2 246 3)) 0 (M2 246 4)) (248 + (M2 246 3)) 1 ((up2 (up2 M2 246 3 ((M2 246 3) + 1)) (248 + (M2 246 3)) 0 (M2 246 4)) 246 5)) 246 4)) ((up2 (up2 (up2 M2 246 3 ((M2 246 3) + 1)) (248 + (M2 246 3)) 0 (M2 246 4)) (248 + (M2 246 3)) 1 ((up2 (up2 M2 246 3 ((M2 246 3) + 1)) (248 + (M2 246 3)) 0 (M2 246 4)) 246 5)) 246 6))) (248 + (M2 246 3)) 3 l1) 246 4) * 6) + ((up2 (up2 (up2 (up2 (up2 M2 246 3 ((M2 246 3) + 1)) (248 + (M2 246 3)) 0 (M2 246 4)) (248 + (M2 246 3)) 1 ((up2 (up2 M2 246 3 ((M2 246 3) + 1)) (248 + (M2 246 3)) 0 (M2 246 4)) 246 5)) (248 + (M2 246 3)) 2 ((up2 (up2 (up2 M2 246 3 ((M2 246 3) + 1)) (248 + (M2 246 3)) 0 (M2 246 4)) (248 + (M2 246 3)) 1 ((up2 (up2 M2 246 3 ((M2 246 3) + 1)) (248 + (M2 246 3)) 0 (M2 246 4)) 246 5)) (6 + ((up2 (up2 (up2 M2 246 3 ((M2 246 3) + 1)) (248 + (M2 246 3)) 0 (M2 246 4)) (248 + (M2 246 3)) 1 ((up2 (up2 M2 246 3 ((M2 246 3) + 1)) (248 + (M2 246 3)) 0 (M2 246 4)) 246 5)) 246 4)) ((up2 (up2 (up2 M2 246 3 ((M2 246 3) + 1)) (248 + (M2 246 3)) 0 (M2 246 4)) (248 + (M2 246 3)) 1 ((up2 (up2 M2 246 3 ((M2 246 3) + 1)) (248 + (M2 246 3)) 0 (M2 246 4)) 246 5)) 246 6))) (248 + (M2 246 3)) 3 l1) 246 5))) ((up2 (up2 (up2 (up2 (up2 M2 246 3 ((M2 246 3) + 1)) (248 + (M2 246 3)) 0 (M2 246 4)) (248 + (M2 246 3)) 1 ((up2 (up2 M2 246 3 ((M2 246 3) + 1)) (248 + (M2 246 3)) 0 (M2 246 4)) 246 5)) (248 + (M2 246 3)) 2 ((up2 (up2 (up2 M2 246 3 ((M2 246 3) + 1)) (248 + (M2 246 3)) 0 (M2 246 4)) (248 + (M2 246 3)) 1 ((up2 (up2 M2 246 3 ((M2 246 3) + 1)) (248 + (M2 246 3)) 0 (M2 246 4)) 246 5)) (6 + ((up2 (up2 (up2 M2 246 3 ((M2 246 3) + 1)) (248 + (M2 246 3)) 0 (M2 246 4)) (248 + (M2 246 3)) 1 ((up2 (up2 M2 246 3 ((M2 246 3) + 1)) (248 + (M2 246 3)) 0 (M2 246 4)) 246 5)) 246 4)) ((up2 (up2 (up2 M2 246 3 ((M2 246 3) + 1)) (248 + (M2 246 3)) 0 (M2 246 4)) (248 + (M2 246 3)) 1 ((up2 (up2 M2 246 3 ((M2 246 3) + 1)) (248 + (M2 246 3)) 0 (M2 246 4)) 246 5)) 246 6))) (248 + (M2 246 3)) 3 l1) 246 6))) 246 5) < 48) ∧ ((0 : Int) ≤ r1 ∧ r1 < 6) ∧ ((0 : Int) ≤ (up2 (up2 (up2 (up2 (up2 (up2 (up2 M2 246 3 ((M2 246 3) + 1)) (248 + (M2 246 3)) 0 (M2 246 4)) (248 + (M2 246 3)) 1 ((up2 (up2 M2 246 3 ((M2 246 3) + 1)) (248 + (M2 246 3)) 0 (M2 246 4)) 246 5)) (248 + (M2 246 3)) 2 ((up2 (up2 (up2 M2 246 3 ((M2 246 3) + 1)) (248 + (M2 246 3)) 0 (M2 246 4)) (248 + (M2 246 3)) 1 ((up2 (up2 M2 246 3 ((M2 246 3) + 1)) (248 + (M2 246 3)) 0 (M2 246 4)) 246 5)) (6 + ((up2 (up2 (up2 M2 246 3 ((M2 246 3) + 1)) (248 + (M2 246 3)) 0 (M2 246 4)) (248 + (M2 246 3)) 1 ((up2 (up2 M2 246 3 ((M2 246 3) + 1)) (248 + (M2 246 3)) 0 (M2 246 4)) 246 5)) 246 4)) ((up2 (up2 (up2 M2 246 3 ((M2 246 3) + 1)) (248 + (M2 246 3)) 0 (M2 246 4)) (248 + (M2 246 3)) 1 ((up2 (up2 M2 246 3 ((M2 246 3) + 1)) (248 + (M2 246 3)) 0 (M2 246 4)) 246 5)) 246 6))) (248 + (M2 246 3)) 3 l1) (248 + (M2 246 3)) 4 ((up2 (up2 (up2 (up2 (up2 M2 246 3 ((M2 246 3) + 1)) (248 + (M2 246 3)) 0 (M2 246 4)) (248 + (M2 246 3)) 1 ((up2 (up2 M2 246 3 ((M2 246 3) + 1)) (248 + (M2 246 3)) 0 (M2 246 4)) 246 5)) (248 + (M2 246 3)) 2 ((up2 (up2 (up2 M2 246 3 ((M2 246 3) + 1)) (248 + (M2 246 3)) 0 (M2 246 4)) (248 + (M2 246 3)) 1 ((up2 (up2 M2 246 3 ((M2 246 3) + 1)) (248 + (M2 246 3)) 0 (M2 246 4)) 246 5)) (6 + ((up2 (up2 (up2 M2 246 3 ((M2 246 3) + 1)) (248 + (M2 246 3)) 0 (M2 246 4)) (248 + (M2 246 3)) 1 ((up2 (up2 M2 246 3 ((M2 246 3) + 1)) (248 + (M2 246 3)) 0 (M2 246 4)) 246 5)) 246 4)) ((up2 (up2 (up2 M2 246 3 ((M2 246 3) + 1)) (248 + (M2 246 3)) 0 (M2 246 4)) (248 + (M2 246 3)) 1 ((up2 (up2 M2 246 3 ((M2 246 3) + 1)) (248 + (M2 246 3)) 0 (M2 246 4)) 246 5)) 246 6))) (248 + (M2 246 3)) 3 l1) (15 + ((((up2 (up2 (up2 (up2 (up2 M2 246 3 ((M2 246 3) + 1)) (248 + (M2 246 3)) 0 (M2 246 4)) (248 + (M2 246 3)) 1 ((up2 (up2 M2 246 3 ((M2 246 3) + 1)) (248 + (M2 246 3)) 0 (M2 246 4)) 246 5)) (248 + (M2 246 3)) 2 ((up2 (up2 (up2 M2 246 3 ((M2 246 3) + 1)) (248 + (M2 246 3)) 0 (M2 246 4)) (248 + (M2 246 3)) 1 ((up2 (up2 M2 246 3 ((M2 246 3) + 1)) (248 + (M2 246 3)) 0 (M2 246 4)) 246 5)) (6 + ((up2 (up2 (up2 M2 246 3 ((M2 246 3) + 1)) (248 + (M2 246 3)) 0 (M2 246 4)) (248 + (M2 246 3)) 1 ((up2 (up2 M2 246 3 ((M2 246 3) + 1)) (248 + (M2 246 3)) 0 (M2 246 4)) 246 5)) 246 4)) ((up2 (up2 (up2 M2 246 3 ((M2 246 3) + 1)) (248 + (M2 246 3)) 0 (M2 246 4)) (248 + (M2 246 3)) 1 ((up2 (up2 M2 246 3 ((M2 246 3) + 1)) (248 + (M2 246 3)) 0 (M2 246 4)) 246 5)) 246 6))) (248 + (M2 246 3)) 3 l1) 246 4) * 6) + ((up2 (up2 (up2 (up2 (up2 M2 246 3 ((M2 246 3) + 1)) (248 + (M2 246 3)) 0 (M2 246 4)) (248 + (M2 246 3)) 1 ((up2 (up2 M2 246 3 ((M2 246 3) + 1)) (248 + (M2 246 3)) 0 (M2 246 4)) 246 5)) (248 + (M2 246 3)) 2 ((up2 (up2 (up2 M2 246 3 ((M2 246 3) + 1)) (248 + (M2 246 3)) 0 (M2 246 4)) (248 + (M2 246 3)) 1 ((up2 (up2 M2 246 3 ((M2 246 3) + 1)) (248 + (M2 246 3)) 0 (M2 246 4)) 246 5)) (6 + ((up2 (up2 (up2 M2 246 3 ((M2 246 3) + 1)) (248 + (M2 246 3)) 0 (M2 246 4)) (248 + (M2 246 3)) 1 ((up2 (up2 M2 246 3 ((M2 246 3) + 1)) (248 + (M2 246 3)) 0 (M2 246 4)) 246 5)) 246 4)) ((up2 (up2 (up2 M2 246 3 ((M2 246 3) + 1)) (248 + (M2 246 3)) 0 (M2 246 4)) (248 + (M2 246 3)) 1 ((up2 (up2 M2 246 3 ((M2 246 3) + 1)) (248 + (M2 246 3)) 0 (M2 246 4)) 246 5)) 246 6))) (248 + (M2 246 3)) 3 l1) 246 5))) ((up2 (up2 (up2 (up2 (up2 M2 246 3 ((M2 246 3) + 1)) (248 + (M2 246 3)) 0 (M2 246 4)) (248 + (M2 246 3)) 1 ((up2 (up2 M2 246 3 ((M2 246 3) + 1)) (248 + (M2 246 3)) 0 (M2 246 4)) 246 5)) (248 + (M2 246 3)) 2 ((up2 (up2 (up2 M2 246 3 ((M2 246 3) + 1)) (248 + (M2 246 3)) 0 (M2 246 4)) (248 + (M2 246 3)) 1 ((up2 (up2 M2 246 3 ((M2 246 3) + 1)) (248 + (M2 246 3)) 0 (M2 246 4)) 246 5)) (6 + ((up2 (up2 (up2 M2 246 3 ((M2 246 3) + 1)) (248 + (M2 246 3)) 0 (M2 246 4)) (248 + (M2 246 3)) 1 ((up2 (up2 M2 246 3 ((M2 246 3) + 1)) (248 + (M2 246 3)) 0 (M2 246 4)) 246 5)) 246 4)) ((up2 (up2 (up2 M2 246 3 ((M2 246 3) + 1)) (248 + (M2 246 3)) 0 (M2 246 4)) (248 + (M2 246 3)) 1 ((up2 (up2 M2 246 3 ((M2 246 3) + 1)) (248 + (M2 246 3)) 0 (M2 246 4)) 246 5)) 246 6))) (248 + (M2 246 3)) 3 l1) 246 6))) (248 + (M2 246 3)) 5 ((up2 (up2 (up2 (up2 (up2 (up2 M2 246 3 ((M2 246 3) + 1)) (248 + (M2 246 3)) 0 (M2 246 4)) (248 + (M2 246 3)) 1 ((up2 (up2 M2 246 3 ((M2 246 3) + 1)) (248 + (M2 246 3)) 0 (M2 246 4)) 246 5)) (248 + (M2 246 3)) 2 ((up2 (up2 (up2 M2 246 3 ((M2 246 3) + 1)) (248 + (M2 246 3)) 0 (M2 246 4)) (248 + (M2 246 3)) 1 ((up2 (up2 M2 246 3 ((M2 246 3) + 1)) (248 + (M2 246 3)) 0 (M2 246 4)) 246 5)) (6 + ((up2 (up2 (up2 M2 246 3 ((M2 246 3) + 1)) (248 + (M2 246 3)) 0 (M2 246 4)) (248 + (M2 246 3)) 1 ((up2 (up2 M2 246 3 ((M2 246 3) + 1)) (248 + (M2 246 3)) 0 (M2 246 4)) 246 5)) 246 4)) ((up2 (up2 (up2 M2 246 3 ((M2 246 3) + 1)) (248 + (M2 246 3)) 0 (M2 246 4)) (248 + (M2 246 3)) 1 ((up2 (up2 M2 246 3 ((M2 246 3) + 1)) (248 + (M2 246 3)) 0 (M2 246 4)) 246 5)) 246 6))) (248 + (M2 246 3)) 3 l1) (248 + (M2 246 3)) 4 ((up2 (up2 (up2 (up2 (up2 M2 246 3 ((M2 246 3) + 1)) (248 + (M2 246 3)) 0 (M2 246 4)) (248 + (M2 246 3)) 1 ((up2 (up2 M2 246 3 ((M2 246 3) + 1)) (248 + (M2 246 3)) 0 (M2 246 4)) 246 5)) (248 + (M2 246 3)) 2 ((up2 (up2 (up2 M2 246 3 ((M2 246 3) + 1)) (248 + (M2 246 3)) 0 (M2 246 4)) (248 + (M2 246 3)) 1 ((up2 (up2 M2 246 3 ((M2 246 3) + 1)) (248 + (M2 246 3)) 0 (M2 246 4)) 246 5)) (6 + ((up2 (up2 (up2 M2 246 3 ((M2 246 3) + 1)) (248 + (M2 246 3)) 0 (M2 246 4)) (248 + (M2 246 3)) 1 ((up2 (up2 M2 246 3 ((M2 246 3) + 1)) (248 + (M2 246 3)) 0 (M2 246 4)) 246 5)) 246 4)) ((up2 (up2 (up2 M2 246 3 ((M2 246 3) + 1)) (248 + (M2 246 3)) 0 (M2 246 4)) (248 + (M2 246 3)) 1 ((up2 (up2 M2 246 3 ((M2 246 3) + 1)) (248 + (M2 246 3)) 0 (M2 246 4)) 246 5)) 246 6))) (248 + (M2 246 3)) 3 l1) (15 + ((((up2 (up2 (up2 (up2 (up2 M2 246 3 ((M2 246 3) + 1)) (248 + (M2 246 3)) 0 (M2 246 4)) (248 + (M2 246 3)) 1 ((up2 (up2 M2 246 3 ((M2 246 3) + 1)) (248 + (M2 246 3)) 0 (M2 246 4)) 246 5)) (248 + (M2 246 3)) 2 ((up2 (up2 (up2 M2 246 3 ((M2 246 3) + 1)) (248 + (M2 246 3)) 0 (M2 246 4)) (248 + (M2 246 3)) 1 ((up2 (up2 M2 246 3 ((M2 246 3) + 1)) (248 + (M2 246 3)) 0 (M2 246 4)) 246 5)) (6 + ((up2 (up2 (up2 M2 246 3 ((M2 246 3) + 1)) (248 + (M2 246 3)) 0 (M2 246 4)) (248 + (M2 246 3)) 1 ((up2 (up2 M2 246 3 ((M2 246 3) + 1)) (248 + (M2 246 3)) 0 (M2 246 4)) 246 5)) 246 4)) ((up2 (up2 (up2 M2 246 3 ((M2 246 3) + 1)) (248 + (M2 246 3)) 0 (M2 246 4)) (248 + (M2 246 3)) 1 ((up2 (up2 M2 246 3 ((M2 246 3) + 1)) (248 + (M2 246 3)) 0 (M2 246 4)) 246 5)) 246 6))) (248 + (M2 246 3)) 3 l1) 246 4) * 6) + ((up2 (up2 (up2 (up2 (up2 M2 246 3 ((M2 246 3) + 1)) (248 + (M2 246 3)) 0 (M2 246 4)) (248 + (M2 246 3)) 1 ((up2 (up2 M2 246 3 ((M2 246 3) + 1)) (248 + (M2 246 3)) 0 (M2 246 4)) 246 5)) (248 + (M2 246 3)) 2 ((up2 (up2 (up2 M2 246 3 ((M2 246 3) + 1)) (248 + (M2 246 3)) 0 (M2 246 4)) (248 + (M2 246 3)) 1 ((up2 (up2 M2 246 3 ((M2 246 3) + 1)) (248 + (M2 246 3)) 0 (M2 246 4)) 246 5)) (6 + ((up2 (up2 (up2 M2 246 3 ((M2 246 3) + 1)) (248 + (M2 246 3)) 0 (M2 246 4)) (248 + (M2 246 3)) 1 ((up2 (up2 M2 246 3 ((M2 246 3) + 1)) (248 + (M2 246 3)) 0 (M2 246 4)) 246 5)) 246 4)) ((up2 (up2 (up2 M2 246 3 ((M2 246 3) + 1)) (248 + (M2 246 3)) 0 (M2 246 4)) (248 + (M2 246 3)) 1 ((up2 (up2 M2 246 3 ((M2 246 3) + 1)) (248 + (M2 246 3)) 0 (M2 246 4)) 246 5)) 246 6))) (248 + (M2 246 3)) 3 l1) 246 5))) ((up2 (up2 (up2 (up2 (up2 M2 246 3 ((M2 246 3) + 1)) (248 + (M2 246 3)) 0 (M2 246 4)) (248 + (M2 246 3)) 1 ((up2 (up2 M2 246 3 ((M2 246 3) + 1)) (248 + (M2 246 3)) 0 (M2 246 4)) 246 5)) (248 + (M2 246 3)) 2 ((up2 (up2 (up2 M2 246 3 ((M2 246 3) + 1)) (248 + (M2 246 3)) 0 (M2 246 4)) (248 + (M2 246 3)) 1 ((up2 (up2 M2 246 3 ((M2 246 3) + 1)) (248 + (M2 246 3)) 0 (M2 246 4)) 246 5)) (6 + ((up2 (up2 (up2 M2 246 3 ((M2 246 3) + 1)) (248 + (M2 246 3)) 0 (M2 246 4)) (248 + (M2 246 3)) 1 ((up2 (up2 M2 246 3 ((M2 246 3) + 1)) (248 + (M2 246 3)) 0 (M2 246 4)) 246 5)) 246 4)) ((up2 (up2 (up2 M2 246 3 ((M2 246 3) + 1)) (248 + (M2 246 3)) 0 (M2 246 4)) (248 + (M2 246 3)) 1 ((up2 (up2 M2 246 3 ((M2 246 3) + 1)) (248 + (M2 246 3)) 0 (M2 246 4)) 246 5)) 246 6))) (248 + (M2 246 3)) 3 l1) 246 6))) (15 + ((((up2 (up2 (up2 (up2 (up2 (up2 M2 246 3 ((M2 246 3) + 1)) (248 + (M2 246 3)) 0 (M2 246 4)) (248 + (M2 246 3)) 1 ((up2 (up2 M2 246 3 ((M2 246 3) + 1)) (248 + (M2 246 3)) 0 (M2 246 4)) 246 5)) (248 + (M2 246 3)) 2 ((up2 (up2 (up2 M2 246 3 ((M2 246 3) + 1)) (248 + (M2 246 3)) 0 (M2 246 4)) (248 + (M2 246 3)) 1 ((up2 (up2 M2 246 3 ((M2 246 3) + 1)) (248 + (M2 246 3)) 0 (M2 246 4)) 246 5)) (6 + ((up2 (up2 (up2 M2 246 3 ((M2 246 3) + 1)) (248 + (M2 246 3)) 0 (M2 246 4)) (248 + (M2 246 3)) 1 ((up2 (up2 M2 246 3 ((M2 246 3) + 1)) (248 + (M2 246 3)) 0 (M2 246 4)) 246 5)) 246 4)) ((up2 (up2 (up2 M2 246 3 ((M2 246 3) + 1)) (248 + (M2 246 3)) 0 (M2 246 4)) (248 + (M2 246 3)) 1 ((up2 (up2 M2 246 3 ((M2 246 3) + 1)) (248 + (M2 246 3)) 0 (M2 246 4)) 246 5)) 246 6))) (248 + (M2 246 3)) 3 l1) (248 + (M2 246 3)) 4 ((up2 (up2 (up2 (up2 (up2 M2 246 3 ((M2 246 3) + 1)) (248 + (M2 246 3)) 0 (M2 246 4)) (248 + (M2 246 3)) 1 ((up2 (up2 M2 246 3 ((M2 246 3) + 1)) (248 + (M2 246 3)) 0 (M2 246 4)) 246 5)) (248 + (M2 246 3)) 2 ((up2 (up2 (up2 M2 246 3 ((M2 246 3) + 1)) (248 + (M2 246 3)) 0 (M2 246 4)) (248 + (M2 246 3)) 1 ((up2 (up2 M2 246 3 ((M2 246 3) + 1)) (248 + (M2 246 3)) 0 (M2 246 4)) 246 5)) (6 + ((up2 (up2 (up2 M2 246 3 ((M2 246 3) + 1)) (248 + (M2 246 3)) 0 (M2 246 4)) (248 + (M2 246 3)) 1 ((up2 (up2 M2 246 3 ((M2 246 3) + 1)) (248 + (M2 246 3)) 0 (M2 246 4)) 246 5)) 246 4)) ((up2 (up2 (up2 M2 246 3 ((M2 246 3) + 1)) (248 + (M2 246 3)) 0 (M2 246 4)) (248 + (M2 246 3)) 1 ((up2 (up2 M2 246 3 ((M2 246 3) + 1)) (248 + (M2 246 3)) 0 (M2 246 4)) 246 5)) 246 6))) (248 + (M2 246 3)) 3 l1) (15 + ((((up2 (up2 (up2 (up2 (up2 M2 246 3 ((M2 246 3) + 1)) (248 + (M2 246 3)) 0 (M2 246 4)) (248 + (M2 246 3)) 1 ((up2 (up2 M2 246 3 ((M2 246 3) + 1)) (248 + (M2 246 3)) 0 (M2 246 4)) 246 5)) (248 + (M2 246 3)) 2 ((up2 (up2 (up2 M2 246 3 ((M2 246 3) + 1)) (248 + (M2 246 3)) 0 (M2 246 4)) (248 + (M2 246 3)) 1 ((up2 (up2 M2 246 3 ((M2 246 3) + 1)) (248 + (M2 246 3)) 0 (M2 246 4)) 246 5)) (6 + ((up2 (up2 (up2 M2 246 3 ((M2 246 3) + 1)) (248 + (M2 246 3)) 0 (M2 246 4)) (248 + (M2 246 3)) 1 ((up2 (up2 M2 246 3 ((M2 246 3) + 1)) (248 + (M2 246 3)) 0 (M2 246 4)) 246 5)) 246 4)) ((up2 (up2 (up2 M2 246 3 ((M2 246 3) + 1)) (248 + (M2 246 3)) 0 (M2 246 4)) (248 + (M2 246 3)) 1 ((up2 (up2 M2 246 3 ((M2 246 3) + 1)) (248 + (M2 246 3)) 0 (M2 246 4)) 246 5)) 246 6))) (248 + (M2 246 3)) 3 l1) 246 4) * 6) + ((up2 (up2 (up2 (up2 (up2 M2 246 3 ((M2 246 3) + 1)) (248 + (M2 246 3)) 0 (M2 246 4)) (248 + (M2 246 3)) 1 ((up2 (up2 M2 246 3 ((M2 246 3) + 1)) (248 + (M2 246 3)) 0 (M2 246 4)) 246 5)) (248 + (M2 246 3)) 2 ((up2 (up2 (up2 M2 246 3 ((M2 246 3) + 1)) (248 + (M2 246 3)) 0 (M2 246 4)) (248 + (M2 246 3)) 1 ((up2 (up2 M2 246 3 ((M2 246 3) + 1)) (248 + (M2 246 3)) 0 (M2 246 4)) 246 5)) (6 + ((up2 (up2 (up2 M2 246 3 ((M2 246 3) + 1)) (248 + (M2 246 3)) 0 (M2 246 4)) (248 + (M2 246 3)) 1 ((up2 (up2 M2 246 3 ((M2 246 3) + 1)) (248 + (M2 246 3)) 0 (M2 246 4)) 246 5)) 246 4)) ((up2 (up2 (up2 M2 246 3 ((M2 246 3) + 1)) (248 + (M2 246 3)) 0 (M2 246 4)) (248 + (M2 246 3)) 1 ((up2 (up2 M2 246 3 ((M2 246 3) + 1)) (248 + (M2 246 3)) 0 (M2 246 4)) 246 5)) 246 6))) (248 + (M2 246 3)) 3 l1) 246 5))) ((up2 (up2 (up2 (up2 (up2 M2 246 3 ((M2 246 3) + 1)) (248 + (M2 246 3)) 0 (M2 246 4)) (248 + (M2 246 3)) 1 ((up2 (up2 M2 246 3 ((M2 246 3) + 1)) (248 + (M2 246 3)) 0 (M2 246 4)) 246 5)) (248 + (M2 246 3)) 2 ((up2 (up2 (up2 M2 246 3 ((M2 246 3) + 1)) (248 + (M2 246 3)) 0 (M2 246 4)) (248 + (M2 246 3)) 1 ((up2 (up2 M2 246 3 ((M2 246 3) + 1)) (248 + (M2 246 3)) 0 (M2 246 4)) 246 5)) (6 + ((up2 (up2 (up2 M2 246 3 ((M2 246 3) + 1)) (248 + (M2 246 3)) 0 (M2 246 4)) (248 + (M2 246 3)) 1 ((up2 (up2 M2 246 3 ((M2 246 3) + 1)) (248 + (M2 246 3)) 0 (M2 246 4)) 246 5)) 246 4)) ((up2 (up2 (up2 M2 246 3 ((M2 246 3) + 1)) (248 + (M2 246 3)) 0 (M2 246 4)) (248 + (M2 246 3)) 1 ((up2 (up2 M2 246 3 ((M2 246 3) + 1)) (248 + (M2 246 3)) 0 (M2 246 4)) 246 5)) 246 6))) (248 + (M2 246 3)) 3 l1) 246 6))) 246 4) * 6) + ((up2 (up2 (up2 (up2 (up2 (up2 M2 246 3 ((M2 246 3) + 1)) (248 + (M2 246 3)) 0 (M2 246 4)) (248 + (M2 246 3)) 1 ((up2 (up2 M2 246 3 ((M2 246 3) + 1)) (248 + (M2 246 3)) 0 (M2 246 4)) 246 5)) (248 + (M2 246 3)) 2 ((up2 (up2 (up2 M2 246 3 ((M2 246 3) + 1)) (248 + (M2 246 3)) 0 (M2 246 4)) (248 + (M2 246 3)) 1 ((up2 (up2 M2 246 3 ((M2 246 3) + 1)) (248 + (M2 246 3)) 0 (M2 246 4)) 246 5)) (6 + ((up2 (up2 (up2 M2 246 3 ((M2 246 3) + 1)) (248 + (M2 246 3)) 0 (M2 246 4)) (248 + (M2 246 3)) 1 ((up2 (up2 M2 246 3 ((M2 246 3) + 1)) (248 + (M2 246 3)) 0 (M2 246 4)) 246 5)) 246 4)) ((up2 (up2 (up2 M2 246 3 ((M2 246 3) + 1)) (248 + (M2 246 3)) 0 (M2 246 4)) (248 + (M2 246 3)) 1 ((up2 (up2 M2 246 3 ((M2 246 3) + 1)) (248 + (M2 246 3)) 0 (M2 246 4)) 246 5)) 246 6))) (248 + (M2 246 3)) 3 l1) (248 + (M2 246 3)) 4 ((up2 (up2 (up2 (up2 (up2 M2 246 3 ((M2 246 3) + 1)) (248 + (M2 246 3)) 0 (M2 246 4)) (248 + (M2 246 3)) 1 ((up2 (up2 M2 246 3 ((M2 246 3) + 1)) (248 + (M2 246 3)) 0 (M2 246 4)) 246 5)) (248 + (M2 246 3)) 2 ((up2 (up2 (up2 M2 246 3 ((M2 246 3) + 1)) (248 + (M2 246 3)) 0 (M2 246 4)) (248 + (M2 246 3)) 1 ((up2 (up2 M2 246 3 ((M2 246 3) + 1)) (248 + (M2 246 3)) 0 (M2 246 4)) 246 5)) (6 + ((up2 (up2 (up2 M2 246 3 ((M2 246 3) + 1)) (248 + (M2 246 3)) 0 (M2 246 4)) (248 + (M2 246 3)) 1 ((up2 (up2 M2 246 3 ((M2 246 3) + 1)) (248 + (M2 246 3)) 0 (M2 246 4)) 246 5)) 246 4)) ((up2 (up2 (up2 M2 246 3 ((M2 246 3) + 1)) (248 + (M2 246 3)) 0 (M2 246 4)) (248 + (M2 246 3)) 1 ((up2 (up2 M2 246 3 ((M2 246 3) + 1)) (248 + (M2 246 3)) 0 (M2 246 4)) 246 5)) 246 6))) (248 + (M2 246 3)) 3 l1) (15 + ((((up2 (up2 (up2 (up2 (up2 M2 246 3 ((M2 246 3) + 1)) (248 + (M2 246 3)) 0 (M2 246 4)) (248 + (M2 246 3)) 1 ((up2 (up2 M2 246 3 ((M2 246 3) + 1)) (248 + (M2 246 3)) 0 (M2 246 4)) 246 5)) (248 + (M2 246 3)) 2 ((up2 (up2 (up2 M2 246 3 ((M2 246 3) + 1)) (248 + (M2 246 3)) 0 (M2 246 4)) (248 + (M2 246 3)) 1 ((up2 (up2 M2 246 3 ((M2 246 3) + 1)) (248 + (M2 246 3)) 0 (M2 246 4)) 246 5)) (6 + ((up2 (up2 (up2 M2 246 3 ((M2 246 3) + 1)) (248 + (M2 246 3)) 0 (M2 246 4)) (248 + (M2 246 3)) 1 ((up2 (up2 M2 246 3 ((M2 246 3) + 1)) (248 + (M2 246 3)) 0 (M2 246 4)) 246 5)) 246 4)) ((up2 (up2 (up2 M2 246 3 ((M2 246 3) + 1)) (248 + (M2 246 3)) 0 (M2 246 4)) (248 + (M2 246 3)) 1 ((up2 (up2 M2 246 3 ((M2 246 3) + 1)) (248 + (M2 246 3)) 0 (M2 246 4)) 246 5)) 246 6))) (248 + (M2 246 3)) 3 l1) 246 4) * 6) + ((up2 (up2 (up2 (up2 (up2 M2 246 3 ((M2 246 3) + 1)) (248 + (M2 246 3)) 0 (M2 246 4)) (248 + (M2 246 3)) 1 ((up2 (up2 M2 246 3 ((M2 246 3) + 1)) (248 + (M2 246 3)) 0 (M2 246 4)) 246 5)) (248 + (M2 246 3)) 2 ((up2 (up2 (up2 M2 246 3 ((M2 246 3) + 1)) (248 + (M2 246 3)) 0 (M2 246 4)) (248 + (M2 246 3)) 1 ((up2 (up2 M2 246 3 ((M2 246 3) + 1)) (248 + (M2 246 3)) 0 (M2 246 4)) 246 5)) (6 + ((up2 (up2 (up2 M2 246 3 ((M2 246 3) + 1)) (248 + (M2 246 3)) 0 (M2 246 4)) (248 + (M2 246 3)) 1 ((up2 (up2 M2 246 3 ((M2 246 3) + 1)) (248 + (M2 246 3)) 0 (M2 246 4)) 246 5)) 246 4)) ((up2 (up2 (up2 M2 246 3 ((M2 246 3) + 1)) (248 + (M2 246 3)) 0 (M2 246 4)) (248 + (M2 246 3)) 1 ((up2 (up2 M2 246 3 ((M2 246 3) + 1)) (248 + (M2 246 3)) 0 (M2 246 4)) 246 5)) 246 6))) (248 + (M2 246 3)) 3 l1) 246 5))) ((up2 (up2 (up2 (up2 (up2 M2 246 3 ((M2 246 3) + 1)) (248 + (M2 246 3)) 0 (M2 246 4)) (248 + (M2 246 3)) 1 ((up2 (up2 M2 246 3 ((M2 246 3) + 1)) (248 + (M2 246 3)) 0 (M2 246 4)) 246 5)) (248 + (M2 246 3)) 2 ((up2 (up2 (up2 M2 246 3 ((M2 246 3) + 1)) (248 + (M2 246 3)) 0 (M2 246 4)) (248 + (M2 246 3)) 1 ((up2 (up2 M2 246 3 ((M2 246 3) + 1)) (248 + (M2 246 3)) 0 (M2 246 4)) 246 5)) (6 + ((up2 (up2 (up2 M2 246 3 ((M2 246 3) + 1)) (248 + (M2 246 3)) 0 (M2 246 4)) (248 + (M2 246 3)) 1 ((up2 (up2 M2 246 3 ((M2 246 3) + 1)) (248 + (M2 246 3)) 0 (M2 246 4)) 246 5)) 246 4)) ((up2 (up2 (up2 M2 246 3 ((M2 246 3) + 1)) (248 + (M2 246 3)) 0 (M2 246 4)) (248 + (M2 246 3)) 1 ((up2 (up2 M2 246 3 ((M2 246 3) + 1)) (248 + (M2 246 3)) 0 (M2 246 4)) 246 5)) 246 6))) (248 + (M2 246 3)) 3 l1) 246 6))) 246 5))) r1)) 246 4 ∧ (up2 (up2 (up2 (up2 (up2 (up2 (up2 M2 246 3 ((M2 246 3) + 1)) (248 + (M2 246 3)) 0 (M2 246 4)) (248 + (M2 246 3)) 1 ((up2 (up2 M2 246 3 ((M2 246 3) + 1)) (248 + (M2 246 3)) 0 (M2 246 4)) 246 5)) (248 + (M2 246 3)) 2 ((up2 (up2 (up2 M2 246 3 ((M2 246 3) + 1)) (248 + (M2 246 3)) 0 (M2 246 4)) (248 + (M2 246 3)) 1 ((up2 (up2 M2 246 3 ((M2 246 3) + 1)) (248 + (M2 246 3)) 0 (M2 246 4)) 246 5)) (6 + ((up2 (up2 (up2 M2 246 3 ((M2 246 3) + 1)) (248 + (M2 246 3)) 0 (M2 246 4)) (248 + (M2 246 3)) 1 ((up2 (up2 M2 246 3 ((M2 246 3) + 1)) (248 + (M2 246 3)) 0 (M2 246 4)) 246 5)) 246 4)) ((up2 (up2 (up2 M2 246 3 ((M2 246 3) + 1)) (248 + (M2 246 3)) 0 (M2 246 4)) (248 + (M2 246 3)) 1 ((up2 (up2 M2 246 3 ((M2 246 3) + 1)) (248 + (M2 246 3)) 0 (M2 246 4)) 246 5)) 246 6))) (248 + (M2 246 3)) 3 l1) (248 + (M2 246 3)) 4 ((up2 (up2 (up2 (up2 (up2 M2 246 3 ((M2 246 3) + 1)) (248 + (M2 246 3)) 0 (M2 246 4)) (248 + (M2 246 3)) 1 ((up2 (up2 M2 246 3 ((M2 246 3) + 1)) (248 + (M2 246 3)) 0 (M2 246 4)) 246 5)) (248 + (M2 246 3)) 2 ((up2 (up2 (up2 M2 246 3 ((M2 246 3) + 1)) (248 + (M2 246 3)) 0 (M2 246 4)) (248 + (M2 246 3)) 1 ((up2 (up2 M2 246 3 ((M2 246 3) + 1)) (248 + (M2 246 3)) 0 (M2 246 4)) 246 5)) (6 + ((up2 (up2 (up2 M2 246 3 ((M2 246 3) + 1)) (248 + (M2 246 3)) 0 (M2 246 4)) (248 + (M2 246 3)) 1 ((up2 (up2 M2 246 3 ((M2 246 3) + 1)) (248 + (M2 246 3)) 0 (M2 246 4)) 246 5)) 246 4)) ((up2 (up2 (up2 M2 246 3 ((M2 246 3) + 1)) (248 + (M2 246 3)) 0 (M2 246 4)) (248 + (M2 246 3)) 1 ((up2 (up2 M2 246 3 ((M2 246 3) + 1)) (248 + (M2 246 3)) 0 (M2 246 4)) 246 5)) 246 6))) (248 + (M2 246 3)) 3 l1) (15 + ((((up2 (up2 (up2 (up2 (up2 M2 246 3 ((M2 246 3) + 1)) (248 + (M2 246 3)) 0 (M2 246 4)) (248 + (M2 246 3)) 1 ((up2 (up2 M2 246 3 ((M2 246 3) + 1)) (248 + (M2 246 3)) 0 (M2 246 4)) 246 5)) (248 + (M2 246 3)) 2 ((up2 (up2 (up2 M2 246 3 ((M2 246 3) + 1)) (248 + (M2 246 3)) 0 (M2 246 4)) (248 + (M2 246 3)) 1 ((up2 (up2 M2 246 3 ((M2 246 3) + 1)) (248 + (M2 246 3)) 0 (M2 246 4)) 246 5)) (6 + ((up2 (up2 (up2 M2 246 3 ((M2 246 3) + 1)) (248 + (M2 246 3)) 0 (M2 246 4)) (248 + (M2 246 3)) 1 ((up2 (up2 M2 246 3 ((M2 246 3) + 1)) (248 + (M2 246 3)) 0 (M2 246 4)) 246 5)) 246 4)) ((up2 (up2 (up2 M2 246 3 ((M2 246 3) + 1)) (248 + (M2 246 3)) 0 (M2 246 4)) (248 + (M2 246 3)) 1 ((up2 (up2 M2 246 3 ((M2 246 3) + 1)) (248 + (M2 246 3)) 0 (M2 246 4)) 246 5)) 246 6))) (248 + (M2 246 3)) 3 l1) 246 4) * 6) + ((up2 (up2 (up2 (up2 (up2 M2 246 3 ((M2 246 3) + 1)) (248 + (M2 246 3)) 0 (M2 246 4)) (248 + (M2 246 3)) 1 ((up2 (up2 M2 246 3 ((M2 246 3) + 1)) (248 + (M2 246 3)) 0 (M2 246 4)) 246 5)) (248 + (M2 246 3)) 2 ((up2 (up2 (up2 M2 246 3 ((M2 246 3) + 1)) (248 + (M2 246 3)) 0 (M2 246 4)) (248 + (M2 246 3)) 1 ((up2 (up2 M2 246 3 ((M2 246 3) + 1)) (248 + (M2 246 3)) 0 (M2 246 4)) 246 5)) (6 + ((up2 (up2 (up2 M2 246 3 ((M2 246 3) + 1)) (248 + (M2 246 3)) 0 (M2 246 4)) (248 + (M2 246 3)) 1 ((up2 (up2 M2 246 3 ((M2 246 3) + 1)) (248 + (M2 246 3)) 0 (M2 246 4)) 246 5)) 246 4)) ((up2 (up2 (up2 M2 246 3 ((M2 246 3) + 1)) (248 + (M2 246 3)) 0 (M2 246 4)) (248 + (M2 246 3)) 1 ((up2 (up2 M2 246 3 ((M2 246 3) + 1)) (248 + (M2 246 3)) 0 (M2 246 4)) 246 5)) 246 6))) (248 + (M2 246 3)) 3 l1) 246 5))) ((up2 (up2 (up2 (up2 (up2 M2 246 3 ((M2 246 3) + 1)) (248 + (M2 246 3)) 0 (M2 246 4)) (248 + (M2 246 3)) 1 ((up2 (up2 M2 246 3 ((M2 246 3) + 1)) (248 + (M2 246 3)) 0 (M2 246 4)) 246 5)) (248 + (M2 246 3)) 2 ((up2 (up2 (up2 M2 246 3 ((M2 246 3) + 1)) (248 + (M2 246 3)) 0 (M2 246 4)) (248 + (M2 246 3)) 1 ((up2 (up2 M2 246 3 ((M2 246 3) + 1)) (248 + (M2 246 3)) 0 (M2 246 4)) 246 5)) (6 + ((up2 (up2 (up2 M2 246 3 ((M2 246 3) + 1)) (248 + (M2 246 3)) 0 (M2 246 4)) (248 + (M2 246 3)) 1 ((up2 (up2 M2 246 3 ((M2 246 3) + 1)) (248 + (M2 246 3)) 0 (M2 246 4)) 246 5)) 246 4)) ((up2 (up2 (up2 M2 246 3 ((M2 246 3) + 1)) (248 + (M2 246 3)) 0 (M2 246 4)) (248 + (M2 246 3)) 1 ((up2 (up2 M2 246 3 ((M2 246 3) + 1)) (248 + (M2 246 3)) 0 (M2 246 4)) 246 5)) 246 6))) (248 + (M2 246 3)) 3 l1) 246 6))) (248 + (M2 246 3)) 5 ((up2 (up2 (up2 (up2 (up2 (up2 M2 246 3 ((M2 246 3) + 1)) (248 + (M2 246 3)) 0 (M2 246 4)) (248 + (M2 246 3)) 1 ((up2 (up2 M2 246 3 ((M2 246 3) + 1)) (248 + (M2 246 3)) 0 (M2 246 4)) 246 5)) (248 + (M2 246 3)) 2 ((up2 (up2 (up2 M2 246 3 ((M2 246 3) + 1)) (248 + (M2 246 3)) 0 (M2 246 4)) (248 + (M2 246 3)) 1 ((up2 (up2 M2 246 3 ((M2 246 3) + 1)) (248 + (M2 246 3)) 0 (M2 246 4)) 246 5)) (6 + ((up2 (up2 (up2 M2 246 3 ((M2 246 3) + 1)) (248 + (M2 246 3)) 0 (M2 246 4)) (248 + (M2 246 3)) 1 ((up2 (up2 M2 246 3 ((M2 246 3) + 1)) (248 + (M2 246 3)) 0 (M2 246 4)) 246 5)) 246 4)) ((up2 (up2 (up2 M2 246 3 ((M2 246 3) + 1)) (248 + (M2 246 3)) 0 (M2 246 4)) (248 + (M2 246 3)) 1 ((up2 (up2 M2 246 3 ((M2 246 3) + 1)) (248 + (M2 246 3)) 0 (M2 246 4)) 246 5)) 246 6))) (248 + (M2 246 3)) 3 l1) (248 + (M2 246 3)) 4 ((up2 (up2 (up2 (up2 (up2 M2 246 3 ((M2 246 3) + 1)) (248 + (M2 246 3)) 0 (M2 246 4)) (248 + (M2 246 3)) 1 ((up2 (up2 M2 246 3 ((M2 246 3) + 1)) (248 + (M2 246 3)) 0 (M2 246 4)) 246 5)) (248 + (M2 246 3)) 2 ((up2 (up2 (up2 M2 246 3 ((M2 246 3) + 1)) (248 + (M2 246 3)) 0 (M2 246 4)) (248 + (M2 246 3)) 1 ((up2 (up2 M2 246 3 ((M2 246 3) + 1)) (248 + (M2 246 3)) 0 (M2 246 4)) 246 5)) (6 + ((up2 (up2 (up2 M2 246 3 ((M2 246 3) + 1)) (248 + (M2 246 3)) 0 (M2 246 4)) (248 + (M2 246 3)) 1 ((up2 (up2 M2 246 3 ((M2 246 3) + 1)) (248 + (M2 246 3)) 0 (M2 246 4)) 246 5)) 246 4)) ((up2 (up2 (up2 M2 246 3 ((M2 246 3) + 1)) (248 + (M2 246 3)) 0 (M2 246 4)) (248 + (M2 246 3)) 1 ((up2 (up2 M2 246 3 ((M2 246 3) + 1)) (248 + (M2 246 3)) 0 (M2 246 4)) 246 5)) 246 6))) (248 + (M2 246 3)) 3 l1) (15 + ((((up2 (up2 (up2 (up2 (up2 M2 246 3 ((M2 246 3) + 1)) (248 + (M2 246 3)) 0 (M2 246 4)) (248 + (M2 246 3)) 1 ((up2 (up2 M2 246 3 ((M2 246 3) + 1)) (248 + (M2 246 3)) 0 (M2 246 4)) 246 5)) (248 + (M2 246 3)) 2 ((up2 (up2 (up2 M2 246 3 ((M2 246 3) + 1)) (248 + (M2 246 3)) 0 (M2 246 4)) (248 + (M2 246 3)) 1 ((up2 (up2 M2 246 3 ((M2 246 3) + 1)) (248 + (M2 246 3)) 0 (M2 246 4)) 246 5)) (6 + ((up2 (up2 (up2 M2 246 3 ((M2 246 3) + 1)) (248 + (M2 246 3)) 0 (M2 246 4)) (248 + (M2 246 3)) 1 ((up2 (up2 M2 246 3 ((M2 246 3) + 1)) (248 + (M2 246 3)) 0 (M2 246 4)) 246 5)) 246 4)) ((up2 (up2 (up2 M2 246 3 ((M2 246 3) + 1)) (248 + (M2 246 3)) 0 (M2 246 4)) (248 + (M2 246 3)) 1 ((up2 (up2 M2 246 3 ((M2 246 3) + 1)) (248 + (M2 246 3)) 0 (M2 246 4)) 246 5)) 246 6))) (248 + (M2 246 3)) 3 l1) 246 4) * 6) + ((up2 (up2 (up2 (up2 (up2 M2 246 3 ((M2 246 3) + 1)) (248 + (M2 246 3)) 0 (M2 246 4)) (248 + (M2 246 3)) 1 ((up2 (up2 M2 246 3 ((M2 246 3) + 1)) (248 + (M2 246 3)) 0 (M2 246 4)) 246 5)) (248 + (M2 246 3)) 2 ((up2 (up2 (up2 M2 246 3 ((M2 246 3) + 1)) (248 + (M2 246 3)) 0 (M2 246 4)) (248 + (M2 246 3)) 1 ((up2 (up2 M2 246 3 ((M2 246 3) + 1)) (248 + (M2 246 3)) 0 (M2 246 4)) 246 5)) (6 + ((up2 (up2 (up2 M2 246 3 ((M2 246 3) + 1)) (248 + (M2 246 3)) 0 (M2 246 4)) (248 + (M2 246 3)) 1 ((up2 (up2 M2 246 3 ((M2 246 3) + 1)) (248 + (M2 246 3)) 0 (M2 246 4)) 246 5)) 246 4)) ((up2 (up2 (up2 M2 246 3 ((M2 246 3) + 1)) (248 + (M2 246 3)) 0 (M2 246 4)) (248 + (M2 246 3)) 1 ((up2 (up2 M2 246 3 ((M2 246 3) + 1)) (248 + (M2 246 3)) 0 (M2 246 4)) 246 5)) 246 6))) (248 + (M2 246 3)) 3 l1) 246 5))) ((up2 (up2 (up2 (up2 (up2 M2 246 3 ((M2 246 3) + 1)) (248 + (M2 246 3)) 0 (M2 246 4)) (248 + (M2 246 3)) 1 ((up2 (up2 M2 246 3 ((M2 246 3) + 1)) (248 + (M2 246 3)) 0 (M2 246 4)) 246 5)) (248 + (M2 246 3)) 2 ((up2 (up2 (up2 M2 246 3 ((M2 246 3) + 1)) (248 + (M2 246 3)) 0 (M2 246 4)) (248 + (M2 246 3)) 1 ((up2 (up2 M2 246 3 ((M2 246 3) + 1)) (248 + (M2 246 3)) 0 (M2 246 4)) 246 5)) (6 + ((up2 (up2 (up2 M2 246 3 ((M2 246 3) + 1)) (248 + (M2 246 3)) 0 (M2 246 4)) (248 + (M2 246 3)) 1 ((up2 (up2 M2 246 3 ((M2 246 3) + 1)) (248 + (M2 246 3)) 0 (M2 246 4)) 246 5)) 246 4)) ((up2 (up2 (up2 M2 246 3 ((M2 246 3) + 1)) (248 + (M2 246 3)) 0 (M2 246 4)) (248 + (M2 246 3)) 1 ((up2 (up2 M2 246 3 ((M2 246 3) + 1)) (248 + (M2 246 3)) 0 (M2 246 4)) 246 5)) 246 6))) (248 + (M2 246 3)) 3 l1) 246 6))) (15 + ((((up2 (up2 (up2 (up2 (up2 (up2 M2 246 3 ((M2 246 3) + 1)) (248 + (M2 246 3)) 0 (M2 246 4)) (248 + (M2 246 3)) 1 ((up2 (up2 M2 246 3 ((M2 246 3) + 1)) (248 + (M2 246 3)) 0 (M2 246 4)) 246 5)) (248 + (M2 246 3)) 2 ((up2 (up2 (up2 M2 246 3 ((M2 246 3) + 1)) (248 + (M2 246 3)) 0 (M2 246 4)) (248 + (M2 246 3)) 1 ((up2 (up2 M2 246 3 ((M2 246 3) + 1)) (248 + (M2 246 3)) 0 (M2 246 4)) 246 5)) (6 + ((up2 (up2 (up2 M2 246 3 ((M2 246 3) + 1)) (248 + (M2 246 3)) 0 (M2 246 4)) (248 + (M2 246 3)) 1 ((up2 (up2 M2 246 3 ((M2 246 3) + 1)) (248 + (M2 246 3)) 0 (M2 246 4)) 246 5)) 246 4)) ((up2 (up2 (up2 M2 246 3 ((M2 246 3) + 1)) (248 + (M2 246 3)) 0 (M2 246 4)) (248 + (M2 246 3)) 1 ((up2 (up2 M2 246 3 ((M2 246 3) + 1)) (248 + (M2 246 3)) 0 (M2 246 4)) 246 5)) 246 6))) (248 + (M2 246 3)) 3 l1) (248 + (M2 246 3)) 4 ((up2 (up2 (up2 (up2 (up2 M2 246 3 ((M2 246 3) + 1)) (248 + (M2 246 3)) 0 (M2 246 4)) (248 + (M2 246 3)) 1 ((up2 (up2 M2 246 3 ((M2 246 3) + 1)) (248 + (M2 246 3)) 0 (M2 246 4)) 246 5)) (248 + (M2 246 3)) 2 ((up2 (up2 (up2 M2 246 3 ((M2 246 3) + 1)) (248 + (M2 246 3)) 0 (M2 246 4)) (248 + (M2 246 3)) 1 ((up2 (up2 M2 246 3 ((M2 246 3) + 1)) (248 + (M2 246 3)) 0 (M2 246 4)) 246 5)) (6 + ((up2 (up2 (up2 M2 246 3 ((M2 246 3) + 1)) (248 + (M2 246 3)) 0 (M2 246 4)) (248 + (M2 246 3)) 1 ((up2 (up2 M2 246 3 ((M2 246 3) + 1)) (248 + (M2 246 3)) 0 (M2 246 4)) 246 5)) 246 4)) ((up2 (up2 (up2 M2 246 3 ((M2 246 3) + 1)) (248 + (M2 246 3)) 0 (M2 246 4)) (248 + (M2 246 3)) 1 ((up2 (up2 M2 246 3 ((M2 246 3) + 1)) (248 + (M2 246 3)) 0 (M2 246 4)) 246 5)) 246 6))) (248 + (M2 246 3)) 3 l1) (15 + ((((up2 (up2 (up2 (up2 (up2 M2 246 3 ((M2 246 3) + 1)) (248 + (M2 246 3)) 0 (M2 246 4)) (248 + (M2 246 3)) 1 ((up2 (up2 M2 246 3 ((M2 246 3) + 1)) (248 + (M2 246 3)) 0 (M2 246 4)) 246 5)) (248 + (M2 246 3)) 2 ((up2 (up2 (up2 M2 246 3 ((M2 246 3) + 1)) (248 + (M2 246 3)) 0 (M2 246 4)) (248 + (M2 246 3)) 1 ((up2 (up2 M2 246 3 ((M2 246 3) + 1)) (248 + (M2 246 3)) 0 (M2 246 4)) 246 5)) (6 + ((up2 (up2 (up2 M2 246 3 ((M2 246 3) + 1)) (248 + (M2 246 3)) 0 (M2 246 4)) (248 + (M2 246 3)) 1 ((up2 (up2 M2 246 3 ((M2 246 3) + 1)) (248 + (M2 246 3)) 0 (M2 246 4)) 246 5)) 246 4)) ((up2 (up2 (up2 M2 246 3 ((M2 246 3) + 1)) (248 + (M2 246 3)) 0 (M2 246 4)) (248 + (M2 246 3)) 1 ((up2 (up2 M2 246 3 ((M2 246 3) + 1)) (248 + (M2 246 3)) 0 (M2 246 4)) 246 5)) 246 6))) (248 + (M2 246 3)) 3 l1) 246 4) * 6) + ((up2 (up2 (up2 (up2 (up2 M2 246 3 ((M2 246 3) + 1)) (248 + (M2 246 3)) 0 (M2 246 4)) (248 + (M2 246 3)) 1 ((up2 (up2 M2 246 3 ((M2 246 3) + 1)) (248 + (M2 246 3)) 0 (M2 246 4)) 246 5)) (248 + (M2 246 3)) 2 ((up2 (up2 (up2 M2 246 3 ((M2 246 3) + 1)) (248 + (M2 246 3)) 0 (M2 246 4)) (248 + (M2 246 3)) 1 ((up2 (up2 M2 246 3 ((M2 246 3) + 1)) (248 + (M2 246 3)) 0 (M2 246 4)) 246 5)) (6 + ((up2 (up2 (up2 M2 246 3 ((M2 246 3) + 1)) (248 + (M2 246 3)) 0 (M2 246 4)) (248 + (M2 246 3)) 1 ((up2 (up2 M2 246 3 ((M2 246 3) + 1)) (248 + (M2 246 3)) 0 (M2 246 4)) 246 5)) 246 4)) ((up2 (up2 (up2 M2 246 3 ((M2 246 3) + 1)) (248 + (M2 246 3)) 0 (M2 246 4)) (248 + (M2 246 3)) 1 ((up2 (up2 M2 246 3 ((M2 246 3) + 1)) (248 + (M2 246 3)) 0 (M2 246 4)) 246 5)) 246 6))) (248 + (M2 246 3)) 3 l1) 246 5))) ((up2 (up2 (up2 (up2 (up2 M2 246 3 ((M2 246 3) + 1)) (248 + (M2 246 3)) 0 (M2 246 4)) (248 + (M2 246 3)) 1 ((up2 (up2 M2 246 3 ((M2 246 3) + 1)) (248 + (M2 246 3)) 0 (M2 246 4)) 246 5)) (248 + (M2 246 3)) 2 ((up2 (up2 (up2 M2 246 3 ((M2 246 3) + 1)) (248 + (M2 246 3)) 0 (M2 246 4)) (248 + (M2 246 3)) 1 ((up2 (up2 M2 246 3 ((M2 246 3) + 1)) (248 + (M2 246 3)) 0 (M2 246 4)) 246 5)) (6 + ((up2 (up2 (up2 M2 246 3 ((M2 246 3) + 1)) (248 + (M2 246 3)) 0 (M2 246 4)) (248 + (M2 246 3)) 1 ((up2 (up2 M2 246 3 ((M2 246 3) + 1)) (248 + (M2 246 3)) 0 (M2 246 4)) 246 5)) 246 4)) ((up2 (up2 (up2 M2 246 3 ((M2 246 3) + 1)) (248 + (M2 246 3)) 0 (M2 246 4)) (248 + (M2 246 3)) 1 ((up2 (up2 M2 246 3 ((M2 246 3) + 1)) (248 + (M2 246 3)) 0 (M2 246 4)) 246 5)) 246 6))) (248 + (M2 246 3)) 3 l1) 246 6))) 246 4) * 6) + ((up2 (up2 (up2 (up2 (up2 (up2 M2 246 3 ((M2 246 3) + 1)) (248 + (M2 246 3)) 0 (M2 246 4)) (248 + (M2 246 3)) 1 ((up2 (up2 M2 246 3 ((M2 246 3) + 1)) (248 + (M2 246 3)) 0 (M2 246 4)) 246 5)) (248 + (M2 246 3)) 2 ((up2 (up2 (up2 M2 246 3 ((M2 246 3) + 1)) (248 + (M2 246 3)) 0 (M2 246 4)) (248 + (M2 246 3)) 1 ((up2 (up2 M2 246 3 ((M2 246 3) + 1)) (248 + (M2 246 3)) 0 (M2 246 4)) 246 5)) (6 + ((up2 (up2 (up2 M2 246 3 ((M2 246 3) + 1)) (248 + (M2 246 3)) 0 (M2 246 4)) (248 + (M2 246 3)) 1 ((up2 (up2 M2 246 3 ((M2 246 3) + 1)) (248 + (M2 246 3)) 0 (M2 246 4)) 246 5)) 246 4)) ((up2 (up2 (up2 M2 246 3 ((M2 246 3) + 1)) (248 + (M2 246 3)) 0 (M2 246 4)) (248 + (M2 246 3)) 1 ((up2 (up2 M2 246 3 ((M2 246 3) + 1)) (248 + (M2 246 3)) 0 (M2 246 4)) 246 5)) 246 6))) (248 + (M2 246 3)) 3 l1) (248 + (M2 246 3)) 4 ((up2 (up2 (up2 (up2 (up2 M2 246 3 ((M2 246 3) + 1)) (248 + (M2 246 3)) 0 (M2 246 4)) (248 + (M2 246 3)) 1 ((up2 (up2 M2 246 3 ((M2 246 3) + 1)) (248 + (M2 246 3)) 0 (M2 246 4)) 246 5)) (248 + (M2 246 3)) 2 ((up2 (up2 (up2 M2 246 3 ((M2 246 3) + 1)) (248 + (M2 246 3)) 0 (M2 246 4)) (248 + (M2 246 3)) 1 ((up2 (up2 M2 246 3 ((M2 246 3) + 1)) (248 + (M2 246 3)) 0 (M2 246 4)) 246 5)) (6 + ((up2 (up2 (up2 M2 246 3 ((M2 246 3) + 1)) (248 + (M2 246 3)) 0 (M2 246 4)) (248 + (M2 246 3)) 1 ((up2 (up2 M2 246 3 ((M2 246 3) + 1)) (248 + (M2 246 3)) 0 (M2 246 4)) 246 5)) 246 4)) ((up2 (up2 (up2 M2 246 3 ((M2 246 3) + 1)) (248 + (M2 246 3)) 0 (M2 246 4)) (248 + (M2 246 3)) 1 ((up2 (up2 M2 246 3 ((M2 246 3) + 1)) (248 + (M2 246 3)) 0 (M2 246 4)) 246 5)) 246 6))) (248 + (M2 246 3)) 3 l1) (15 + ((((up2 (up2 (up2 (up2 (up2 M2 246 3 ((M2 246 3) + 1)) (248 + (M2 246 3)) 0 (M2 246 4)) (248 + (M2 246 3)) 1 ((up2 (up2 M2 246 3 ((M2 246 3) + 1)) (248 + (M2 246 3)) 0 (M2 246 4)) 246 5)) (248 + (M2 246 3)) 2 ((up2 (up2 (up2 M2 246 3 ((M2 246 3) + 1)) (248 + (M2 246 3)) 0 (M2 246 4)) (248 + (M2 246 3)) 1 ((up2 (up2 M2 246 3 ((M2 246 3) + 1)) (248 + (M2 246 3)) 0 (M2 246 4)) 246 5)) (6 + ((up2 (up2 (up2 M2 246 3 ((M2 246 3) + 1)) (248 + (M2 246 3)) 0 (M2 246 4)) (248 + (M2 246 3)) 1 ((up2 (up2 M2 246 3 ((M2 246 3) + 1)) (248 + (M2 246 3)) 0 (M2 246 4)) 246 5)) 246 4)) ((up2 (up2 (up2 M2 246 3 ((M2 246 3) + 1)) (248 + (M2 246 3)) 0 (M2 246 4)) (248 + (M2 246 3)) 1 ((up2 (up2 M2 246 3 ((M2 246 3) + 1)) (248 + (M2 246 3)) 0 (M2 246 4)) 246 5)) 246 6))) (248 + (M2 246 3)) 3 l1) 246 4) * 6) + ((up2 (up2 (up2 (up2 (up2 M2 246 3 ((M2 246 3) + 1)) (248 + (M2 246 3)) 0 (M2 246 4)) (248 + (M2 246 3)) 1 ((up2 (up2 M2 246 3 ((M2 246 3) + 1)) (248 + (M2 246 3)) 0 (M2 246 4)) 246 5)) (248 + (M2 246 3)) 2 ((up2 (up2 (up2 M2 246 3 ((M2 246 3) + 1)) (248 + (M2 246 3)) 0 (M2 246 4)) (248 + (M2 246 3)) 1 ((up2 (up2 M2 246 3 ((M2 246 3) + 1)) (248 + (M2 246 3)) 0 (M2 246 4)) 246 5)) (6 + ((up2 (up2 (up2 M2 246 3 ((M2 246 3) + 1)) (248 + (M2 246 3)) 0 (M2 246 4)) (248 + (M2 246 3)) 1 ((up2 (up2 M2 246 3 ((M2 246 3) + 1)) (248 + (M2 246 3)) 0 (M2 246 4)) 246 5)) 246 4)) ((up2 (up2 (up2 M2 246 3 ((M2 246 3) + 1)) (248 + (M2 246 3)) 0 (M2 246 4)) (248 + (M2 246 3)) 1 ((up2 (up2 M2 246 3 ((M2 246 3) + 1)) (248 + (M2 246 3)) 0 (M2 246 4)) 246 5)) 246 6))) (248 + (M2 246 3)) 3 l1) 246 5))) ((up2 (up2 (up2 (up2 (up2 M2 246 3 ((M2 246 3) + 1)) (248 + (M2 246 3)) 0 (M2 246 4)) (248 + (M2 246 3)) 1 ((up2 (up2 M2 246 3 ((M2 246 3) + 1)) (248 + (M2 246 3)) 0 (M2 246 4)) 246 5)) (248 + (M2 246 3)) 2 ((up2 (up2 (up2 M2 246 3 ((M2 246 3) + 1)) (248 + (M2 246 3)) 0 (M2 246 4)) (248 + (M2 246 3)) 1 ((up2 (up2 M2 246 3 ((M2 246 3) + 1)) (248 + (M2 246 3)) 0 (M2 246 4)) 246 5)) (6 + ((up2 (up2 (up2 M2 246 3 ((M2 246 3) + 1)) (248 + (M2 246 3)) 0 (M2 246 4)) (248 + (M2 246 3)) 1 ((up2 (up2 M2 246 3 ((M2 246 3) + 1)) (248 + (M2 246 3)) 0 (M2 246 4)) 246 5)) 246 4)) ((up2 (up2 (up2 M2 246 3 ((M2 246 3) + 1)) (248 + (M2 246 3)) 0 (M2 246 4)) (248 + (M2 246 3)) 1 ((up2 (up2 M2 246 3 ((M2 246 3) + 1)) (248 + (M2 246 3)) 0 (M2 246 4)) 246 5)) 246 6))) (248 + (M2 246 3)) 3 l1) 246 6))) 246 5))) r1)) 246 4 < 8) ∧ (-2147483648 ≤ r1 - ((up2 (up2 (up2 (up2 (up2 (up2 (up2 M2 246 3 ((M2 246 3) + 1)) (248 + (M2 246 3)) 0 (M2 246 4)) (248 + (M2 246 3)) 1 ((up2 (up2 M2 246 3 ((M2 246 3) + 1)) (248 + (M2 246 3)) 0 (M2 246 4)) 246 5)) (248 + (M2 246 3)) 2 ((up2 (up2 (up2 M2 246 3 ((M2 246 3) + 1)) (248 + (M2 246 3)) 0 (M2 246 4)) (248 + (M2 246 3)) 1 ((up2 (up2 M2 246 3 ((M2 246 3) + 1)) (248 + (M2 246 3)) 0 (M2 246 4)) 246 5)) (6 + ((up2 (up2 (up2 M2 246 3 ((M2 246 3) + 1)) (248 + (M2 246 3)) 0 (M2 246 4)) (248 + (M2 246 3)) 1 ((up2 (up2 M2 246 3 ((M2 246 3) + 1)) (248 + (M2 246 3)) 0 (M2 246 4)) 246 5)) 246 4)) ((up2 (up2 (up2 M2 246 3 ((M2 246 3) + 1)) (248 + (M2 246 3)) 0 (M2 246 4)) (248 + (M2 246 3)) 1 ((up2 (up2 M2 246 3 ((M2 246 3) + 1)) (248 + (M2 246 3)) 0 (M2 246 4)) 246 5)) 246 6))) (248 + (M2 246 3)) 3 l1) (248 + (M2 246 3)) 4 ((up2 (up2 (up2 (up2 (up2 M2 246 3 ((M2 246 3) + 1)) (248 + (M2 246 3)) 0 (M2 246 4)) (248 + (M2 246 3)) 1 ((up2 (up2 M2 246 3 ((M2 246 3) + 1)) (248 + (M2 246 3)) 0 (M2 246 4)) 246 5)) (248 + (M2 246 3)) 2 ((up2 (up2 (up2 M2 246 3 ((M2 246 3) + 1)) (248 + (M2 246 3)) 0 (M2 246 4)) (248 + (M2 246 3)) 1 ((up2 (up2 M2 246 3 ((M2 246 3) + 1)) (248 + (M2 246 3)) 0 (M2 246 4)) 246 5)) (6 + ((up2 (up2 (up2 M2 246 3 ((M2 246 3) + 1)) (248 + (M2 246 3)) 0 (M2 246 4)) (248 + (M2 246 3)) 1 ((up2 (up2 M2 246 3 ((M2 246 3) + 1)) (248 + (M2 246 3)) 0 (M2 246 4)) 246 5)) 246 4)) ((up2 (up2 (up2 M2 246 3 ((M2 246 3) + 1)) (248 + (M2 246 3)) 0 (M2 246 4)) (248 + (M2 246 3)) 1 ((up2 (up2 M2 246 3 ((M2 246 3) + 1)) (248 + (M2 246 3)) 0 (M2 246 4)) 246 5)) 246 6))) (248 + (M2 246 3)) 3 l1) (15 + ((((up2 (up2 (up2 (up2 (up2 M2 246 3 ((M2 246 3) + 1)) (248 + (M2 246 3)) 0 (M2 246 4)) (248 + (M2 246 3)) 1 ((up2 (up2 M2 246 3 ((M2 246 3) + 1)) (248 + (M2 246 3)) 0 (M2 246 4)) 246 5)) (248 + (M2 246 3)) 2 ((up2 (up2 (up2 M2 246 3 ((M2 246 3) + 1)) (248 + (M2 246 3)) 0 (M2 246 4)) (248 + (M2 246 3)) 1 ((up2 (up2 M2 246 3 ((M2 246 3) + 1)) (248 + (M2 246 3)) 0 (M2 246 4)) 246 5)) (6 + ((up2 (up2 (up2 M2 246 3 ((M2 246 3) + 1)) (248 + (M2 246 3)) 0 (M2 246 4)) (248 + (M2 246 3)) 1 ((up2 (up2 M2 246 3 ((M2 246 3) + 1)) (248 + (M2 246 3)) 0 (M2 246 4)) 246 5)) 246 4)) ((up2 (up2 (up2 M2 246 3 ((M2 246 3) + 1)) (248 + (M2 246 3)) 0 (M2 246 4)) (248 + (M2 246 3)) 1 ((up2 (up2 M2 246 3 ((M2 246 3) + 1)) (248 + (M2 246 3)) 0 (M2 246 4)) 246 5)) 246 6))) (248 + (M2 246 3)) 3 l1) 246 4) * 6) + ((up2 (up2 (up2 (up2 (up2 M2 246 3 ((M2 246 3) + 1)) (248 + (M2 246 3)) 0 (M2 246 4)) (248 + (M2 246 3)) 1 ((up2 (up2 M2 246 3 ((M2 246 3) + 1)) (248 + (M2 246 3)) 0 (M2 246 4)) 246 5)) (248 + (M2 246 3)) 2 ((up2 (up2 (up2 M2 246 3 ((M2 246 3) + 1)) (248 + (M2 246 3)) 0 (M2 246 4)) (248 + (M2 246 3)) 1 ((up2 (up2 M2 246 3 ((M2 246 3) + 1)) (248 + (M2 246 3)) 0 (M2 246 4)) 246 5)) (6 + ((up2 (up2 (up2 M2 246 3 ((M2 246 3) + 1)) (248 + (M2 246 3)) 0 (M2 246 4)) (248 + (M2 246 3)) 1 ((up2 (up2 M2 246 3 ((M2 246 3) + 1)) (248 + (M2 246 3)) 0 (M2 246 4)) 246 5)) 246 4)) ((up2 (up2 (up2 M2 246 3 ((M2 246 3) + 1)) (248 + (M2 246 3)) 0 (M2 246 4)) (248 + (M2 246 3)) 1 ((up2 (up2 M2 246 3 ((M2 246 3) + 1)) (248 + (M2 246 3)) 0 (M2 246 4)) 246 5)) 246 6))) (248 + (M2 246 3)) 3 l1) 246 5))) ((up2 (up2 (up2 (up2 (up2 M2 246 3 ((M2 246 3) + 1)) (248 + (M2 246 3)) 0 (M2 246 4)) (248 + (M2 246 3)) 1 ((up2 (up2 M2 246 3 ((M2 246 3) + 1)) (248 + (M2 246 3)) 0 (M2 246 4)) 246 5)) (248 + (M2 246 3)) 2 ((up2 (up2 (up2 M2 246 3 ((M2 246 3) + 1)) (248 + (M2 246 3)) 0 (M2 246 4)) (248 + (M2 246 3)) 1 ((up2 (up2 M2 246 3 ((M2 246 3) + 1)) (248 + (M2 246 3)) 0 (M2 246 4)) 246 5)) (6 + ((up2 (up2 (up2 M2 246 3 ((M2 246 3) + 1)) (248 + (M2 246 3)) 0 (M2 246 4)) (248 + (M2 246 3)) 1 ((up2 (up2 M2 246 3 ((M2 246 3) + 1)) (248 + (M2 246 3)) 0 (M2 246 4)) 246 5)) 246 4)) ((up2 (up2 (up2 M2 246 3 ((M2 246 3) + 1)) (248 + (M2 246 3)) 0 (M2 246 4)) (248 + (M2 246 3)) 1 ((up2 (up2 M2 246 3 ((M2 246 3) + 1)) (248 + (M2 246 3)) 0 (M2 246 4)) 246 5)) 246 6))) (248 + (M2 246 3)) 3 l1) 246 6))) (248 + (M2 246 3)) 5 ((up2 (up2 (up2 (up2 (up2 (up2 M2 246 3 ((M2 246 3) + 1)) (248 + (M2 246 3)) 0 (M2 246 4)) (248 + (M2 246 3)) 1 ((up2 (up2 M2 246 3 ((M2 246 3) + 1)) (248 + (M2 246 3)) 0 (M2 246 4)) 246 5)) (248 + (M2 246 3)) 2 ((up2 (up2 (up2 M2 246 3 ((M2 246 3) + 1)) (248 + (M2 246 3)) 0 (M2 246 4)) (248 + (M2 246 3)) 1 ((up2 (up2 M2 246 3 ((M2 246 3) + 1)) (248 + (M2 246 3)) 0 (M2 246 4)) 246 5)) (6 + ((up2 (up2 (up2 M2 246 3 ((M2 246 3) + 1)) (248 + (M2 246 3)) 0 (M2 246 4)) (248 + (M2 246 3)) 1 ((up2 (up2 M2 246 3 ((M2 246 3) + 1)) (248 + (M2 246 3)) 0 (M2 246 4)) 246 5)) 246 4)) ((up2 (up2 (up2 M2 246 3 ((M2 246 3) + 1)) (248 + (M2 246 3)) 0 (M2 246 4)) (248 + (M2 246 3)) 1 ((up2 (up2 M2 246 3 ((M2 246 3) + 1)) (248 + (M2 246 3)) 0 (M2 246 4)) 246 5)) 246 6))) (248 + (M2 246 3)) 3 l1) (248 + (M2 246 3)) 4 ((up2 (up2 (up2 (up2 (up2 M2 246 3 ((M2 246 3) + 1)) (248 + (M2 246 3)) 0 (M2 246 4)) (248 + (M2 246 3)) 1 ((up2 (up2 M2 246 3 ((M2 246 3) + 1)) (248 + (M2 246 3)) 0 (M2 246 4)) 246 5)) (248 + (M2 246 3)) 2 ((up2 (up2 (up2 M2 246 3 ((M2 246 3) + 1)) (248 + (M2 246 3)) 0 (M2 246 4)) (248 + (M2 246 3)) 1 ((up2 (up2 M2 246 3 ((M2 246 3) + 1)) (248 + (M2 246 3)) 0 (M2 246 4)) 246 5)) (6 + ((up2 (up2 (up2 M2 246 3 ((M2 246 3) + 1)) (248 + (M2 246 3)) 0 (M2 246 4)) (248 + (M2 246 3)) 1 ((up2 (up2 M2 246 3 ((M2 246 3) + 1)) (248 + (M2 246 3)) 0 (M2 246 4)) 246 5)) 246 4)) ((up2 (up2 (up2 M2 246 3 ((M2 246 3) + 1)) (248 + (M2 246 3)) 0 (M2 246 4)) (248 + (M2 246 3)) 1 ((up2 (up2 M2 246 3 ((M2 246 3) + 1)) (248 + (M2 246 3)) 0 (M2 246 4)) 246 5)) 246 6))) (248 + (M2 246 3)) 3 l1) (15 + ((((up2 (up2 (up2 (up2 (up2 M2 246 3 ((M2 246 3) + 1)) (248 + (M2 246 3)) 0 (M2 246 4)) (248 + (M2 246 3)) 1 ((up2 (up2 M2 246 3 ((M2 246 3) + 1)) (248 + (M2 246 3)) 0 (M2 246 4)) 246 5)) (248 + (M2 246 3)) 2 ((up2 (up2 (up2 M2 246 3 ((M2 246 3) + 1)) (248 + (M2 246 3)) 0 (M2 246 4)) (248 + (M2 246 3)) 1 ((up2 (up2 M2 246 3 ((M2 246 3) + 1)) (248 + (M2 246 3)) 0 (M2 246 4)) 246 5)) (6 + ((up2 (up2 (up2 M2 246 3 ((M2 246 3) + 1)) (248 + (M2 246 3)) 0 (M2 246 4)) (248 + (M2 246 3)) 1 ((up2 (up2 M2 246 3 ((M2 246 3) + 1)) (248 + (M2 246 3)) 0 (M2 246 4)) 246 5)) 246 4)) ((up2 (up2 (up2 M2 246 3 ((M2 246 3) + 1)) (248 + (M2 246 3)) 0 (M2 246 4)) (248 + (M2 246 3)) 1 ((up2 (up2 M2 246 3 ((M2 246 3) + 1)) (248 + (M2 246 3)) 0 (M2 246 4)) 246 5)) 246 6))) (248 + (M2 246 3)) 3 l1) 246 4) * 6) + ((up2 (up2 (up2 (up2 (up2 M2 246 3 ((M2 246 3) + 1)) (248 + (M2 246 3)) 0 (M2 246 4)) (248 + (M2 246 3)) 1 ((up2 (up2 M2 246 3 ((M2 246 3) + 1)) (248 + (M2 246 3)) 0 (M2 246 4)) 246 5)) (248 + (M2 246 3)) 2 ((up2 (up2 (up2 M2 246 3 ((M2 246 3) + 1)) (248 + (M2 246 3)) 0 (M2 246 4)) (248 + (M2 246 3)) 1 ((up2 (up2 M2 246 3 ((M2 246 3) + 1)) (248 + (M2 246 3)) 0 (M2 246 4)) 246 5)) (6 + ((up2 (up2 (up2 M2 246 3 ((M2 246 3) + 1)) (248 + (M2 246 3)) 0 (M2 246 4)) (248 + (M2 246 3)) 1 ((up2 (up2 M2 246 3 ((M2 246 3) + 1)) (248 + (M2 246 3)) 0 (M2 246 4)) 246 5)) 246 4)) ((up2 (up2 (up2 M2 246 3 ((M2 246 3) + 1)) (248 + (M2 246 3)) 0 (M2 246 4)) (248 + (M2 246 3)) 1 ((up2 (up2 M2 246 3 ((M2 246 3) + 1)) (248 + (M2 246 3)) 0 (M2 246 4)) 246 5)) 246 6))) (248 + (M2 246 3)) 3 l1) 246 5))) ((up2 (up2 (up2 (up2 (up2 M2 246 3 ((M2 246 3) + 1)) (248 + (M2 246 3)) 0 (M2 246 4)) (248 + (M2 246 3)) 1 ((up2 (up2 M2 246 3 ((M2 246 3) + 1)) (248 + (M2 246 3)) 0 (M2 246 4)) 246 5)) (248 + (M2 246 3)) 2 ((up2 (up2 (up2 M2 246 3 ((M2 246 3) + 1)) (248 + (M2 246 3)) 0 (M2 246 4)) (248 + (M2 246 3)) 1 ((up2 (up2 M2 246 3 ((M2 246 3) + 1)) (248 + (M2 246 3)) 0 (M2 246 4)) 246 5)) (6 + ((up2 (up2 (up2 M2 246 3 ((M2 246 3) + 1)) (248 + (M2 246 3)) 0 (M2 246 4)) (248 + (M2 246 3)) 1 ((up2 (up2 M2 246 3 ((M2 246 3) + 1)) (248 + (M2 246 3)) 0 (M2 246 4)) 246 5)) 246 4)) ((up2 (up2 (up2 M2 246 3 ((M2 246 3) + 1)) (248 + (M2 246 3)) 0 (M2 246 4)) (248 + (M2 246 3)) 1 ((up2 (up2 M2 246 3 ((M2 246 3) + 1)) (248 + (M2 246 3)) 0 (M2 246 4)) 246 5)) 246 6))) (248 + (M2 246 3)) 3 l1) 246 6))) (15 + ((((up2 (up2 (up2 (up2 (up2 (up2 M2 246 3 ((M2 246 3) + 1)) (248 + (M2 246 3)) 0 (M2 246 4)) (248 + (M2 246 3)) 1 ((up2 (up2 M2 246 3 ((M2 246 3) + 1)) (248 + (M2 246 3)) 0 (M2 246 4)) 246 5)) (248 + (M2 246 3)) 2 ((up2 (up2 (up2 M2 246 3 ((M2 246 3) + 1)) (248 + (M2 246 3)) 0 (M2 246 4)) (248 + (M2 246 3)) 1 ((up2 (up2 M2 246 3 ((M2 246 3) + 1)) (248 + (M2 246 3)) 0 (M2 246 4)) 246 5)) (6 + ((up2 (up2 (up2 M2 246 3 ((M2 246 3) + 1)) (248 + (M2 246 3)) 0 (M2 246 4)) (248 + (M2 246 3)) 1 ((up2 (up2 M2 246 3 ((M2 246 3) + 1)) (248 + (M2 246 3)) 0 (M2 246 4)) 246 5)) 246 4)) ((up2 (up2 (up2 M2 246 3 ((M2 246 3) + 1)) (248 + (M2 246 3)) 0 (M2 246 4)) (248 + (M2 246 3)) 1 ((up2 (up2 M2 246 3 ((M2 246 3) + 1)) (248 + (M2 246 3)) 0 (M2 246 4)) 246 5)) 246 6))) (248 + (M2 246 3)) 3 l1) (248 + (M2 246 3)) 4 ((up2 (up2 (up2 (up2 (up2 M2 246 3 ((M2 246 3) + 1)) (248 + (M2 246 3)) 0 (M2 246 4)) (248 + (M2 246 3)) 1 ((up2 (up2 M2 246 3 ((M2 246 3) + 1)) (248 + (M2 246 3)) 0 (M2 246 4)) 246 5)) (248 + (M2 246 3)) 2 ((up2 (up2 (up2 M2 246 3 ((M2 246 3) + 1)) (248 + (M2 246 3)) 0 (M2 246 4)) (248 + (M2 246 3)) 1 ((up2 (up2 M2 246 3 ((M2 246 3) + 1)) (248 + (M2 246 3)) 0 (M2 246 4)) 246 5)) (6 + ((up2 (up2 (up2 M2 246 3 ((M2 246 3) + 1)) (248 + (M2 246 3)) 0 (M2 246 4)) (248 + (M2 246 3)) 1 ((up2 (up2 M2 246 3 ((M2 246 3) + 1)) (248 + (M2 246 3)) 0 (M2 246 4)) 246 5)) 246 4)) ((up2 (up2 (up2 M2 246 3 ((M2 246 3) + 1)) (248 + (M2 246 3)) 0 (M2 246 4)) (248 + (M2 246 3)) 1 ((up2 (up2 M2 246 3 ((M2 246 3) + 1)) (248 + (M2 246 3)) 0 (M2 246 4)) 246 5)) 246 6))) (248 + (M2 246 3)) 3 l1) (15 + ((((up2 (up2 (up2 (up2 (up2 M2 246 3 ((M2 246 3) + 1)) (248 + (M2 246 3)) 0 (M2 246 4)) (248 + (M2 246 3)) 1 ((up2 (up2 M2 246 3 ((M2 246 3) + 1)) (248 + (M2 246 3)) 0 (M2 246 4)) 246 5)) (248 + (M2 246 3)) 2 ((up2 (up2 (up2 M2 246 3 ((M2 246 3) + 1)) (248 + (M2 246 3)) 0 (M2 246 4)) (248 + (M2 246 3)) 1 ((up2 (up2 M2 246 3 ((M2 246 3) + 1)) (248 + (M2 246 3)) 0 (M2 246 4)) 246 5)) (6 + ((up2 (up2 (up2 M2 246 3 ((M2 246 3) + 1)) (248 + (M2 246 3)) 0 (M2 246 4)) (248 + (M2 246 3)) 1 ((up2 (up2 M2 246 3 ((M2 246 3) + 1)) (248 + (M2 246 3)) 0 (M2 246 4)) 246 5)) 246 4)) ((up2 (up2 (up2 M2 246 3 ((M2 246 3) + 1)) (248 + (M2 246 3)) 0 (M2 246 4)) (248 + (M2 246 3)) 1 ((up2 (up2 M2 246 3 ((M2 246 3) + 1)) (248 + (M2 246 3)) 0 (M2 246 4)) 246 5)) 246 6))) (248 + (M2 246 3)) 3 l1) 246 4) * 6) + ((up2 (up2 (up2 (up2 (up2 M2 246 3 ((M2 246 3) + 1)) (248 + (M2 246 3)) 0 (M2 246 4)) (248 + (M2 246 3)) 1 ((up2 (up2 M2 246 3 ((M2 246 3) + 1)) (248 + (M2 246 3)) 0 (M2 246 4)) 246 5)) (248 + (M2 246 3)) 2 ((up2 (up2 (up2 M2 246 3 ((M2 246 3) + 1)) (248 + (M2 246 3)) 0 (M2 246 4)) (248 + (M2 246 3)) 1 ((up2 (up2 M2 246 3 ((M2 246 3) + 1)) (248 + (M2 246 3)) 0 (M2 246 4)) 246 5)) (6 + ((up2 (up2 (up2 M2 246 3 ((M2 246 3) + 1)) (248 + (M2 246 3)) 0 (M2 246 4)) (248 + (M2 246 3)) 1 ((up2 (up2 M2 246 3 ((M2 246 3) + 1)) (248 + (M2 246 3)) 0 (M2 246 4)) 246 5)) 246 4)) ((up2 (up2 (up2 M2 246 3 ((M2 246 3) + 1)) (248 + (M2 246 3)) 0 (M2 246 4)) (248 + (M2 246 3)) 1 ((up2 (up2 M2 246 3 ((M2 246 3) + 1)) (248 + (M2 246 3)) 0 (M2 246 4)) 246 5)) 246 6))) (248 + (M2 246 3)) 3 l1) 246 5))) ((up2 (up2 (up2 (up2 (up2 M2 246 3 ((M2 246 3) + 1)) (248 + (M2 246 3)) 0 (M2 246 4)) (248 + (M2 246 3)) 1 ((up2 (up2 M2 246 3 ((M2 246 3) + 1)) (248 + (M2 246 3)) 0 (M2 246 4)) 246 5)) (248 + (M2 246 3)) 2 ((up2 (up2 (up2 M2 246 3 ((M2 246 3) + 1)) (248 + (M2 246 3)) 0 (M2 246 4)) (248 + (M2 246 3)) 1 ((up2 (up2 M2 246 3 ((M2 246 3) + 1)) (248 + (M2 246 3)) 0 (M2 246 4)) 246 5)) (6 + ((up2 (up2 (up2 M2 246 3 ((M2 246 3) + 1)) (248 + (M2 246 3)) 0 (M2 246 4)) (248 + (M2 246 3)) 1 ((up2 (up2 M2 246 3 ((M2 246 3) + 1)) (248 + (M2 246 3)) 0 (M2 246 4)) 246 5)) 246 4)) ((up2 (up2 (up2 M2 246 3 ((M2 246 3) + 1)) (248 + (M2 246 3)) 0 (M2 246 4)) (248 + (M2 246 3)) 1 ((up2 (up2 M2 246 3 ((M2 246 3) + 1)) (248 + (M2 246 3)) 0 (M2 246 4)) 246 5)) 246 6))) (248 + (M2 246 3)) 3 l1) 246 6))) 246 4) * 6) + ((up2 (up2 (up2 (up2 (up2 (up2 M2 246 3 ((M2 246 3) + 1)) (248 + (M2 246 3)) 0 (M2 246 4)) (248 + (M2 246 3)) 1 ((up2 (up2 M2 246 3 ((M2 246 3) + 1)) (248 + (M2 246 3)) 0 (M2 246 4)) 246 5)) (248 + (M2 246 3)) 2 ((up2 (up2 (up2 M2 246 3 ((M2 246 3) + 1)) (248 + (M2 246 3)) 0 (M2 246 4)) (248 + (M2 246 3)) 1 ((up2 (up2 M2 246 3 ((M2 246 3) + 1)) (248 + (M2 246 3)) 0 (M2 246 4)) 246 5)) (6 + ((up2 (up2 (up2 M2 246 3 ((M2 246 3) + 1)) (248 + (M2 246 3)) 0 (M2 246 4)) (248 + (M2 246 3)) 1 ((up2 (up2 M2 246 3 ((M2 246 3) + 1)) (248 + (M2 246 3)) 0 (M2 246 4)) 246 5)) 246 4)) ((up2 (up2 (up2 M2 246 3 ((M2 246 3) + 1)) (248 + (M2 246 3)) 0 (M2 246 4)) (248 + (M2 246 3)) 1 ((up2 (up2 M2 246 3 ((M2 246 3) + 1)) (248 + (M2 246 3)) 0 (M2 246 4)) 246 5)) 246 6))) (248 + (M2 246 3)) 3 l1) (248 + (M2 246 3)) 4 ((up2 (up2 (up2 (up2 (up2 M2 246 3 ((M2 246 3) + 1)) (248 + (M2 246 3)) 0 (M2 246 4)) (248 + (M2 246 3)) 1 ((up2 (up2 M2 246 3 ((M2 246 3) + 1)) (248 + (M2 246 3)) 0 (M2 246 4)) 246 5)) (248 + (M2 246 3)) 2 ((up2 (up2 (up2 M2 246 3 ((M2 246 3) + 1)) (248 + (M2 246 3)) 0 (M2 246 4)) (248 + (M2 246 3)) 1 ((up2 (up2 M2 246 3 ((M2 246 3) + 1)) (248 + (M2 246 3)) 0 (M2 246 4)) 246 5)) (6 + ((up2 (up2 (up2 M2 246 3 ((M2 246 3) + 1)) (248 + (M2 246 3)) 0 (M2 246 4)) (248 + (M2 246 3)) 1 ((up2 (up2 M2 246 3 ((M2 246 3) + 1)) (248 + (M2 246 3)) 0 (M2 246 4)) 246 5)) 246 4)) ((up2 (up2 (up2 M2 246 3 ((M2 246 3) + 1)) (248 + (M2 246 3)) 0 (M2 246 4)) (248 + (M2 246 3)) 1 ((up2 (up2 M2 246 3 ((M2 246 3) + 1)) (248 + (M2 246 3)) 0 (M2 246 4)) 246 5)) 246 6))) (248 + (M2 246 3)) 3 l1) (15 + ((((up2 (up2 (up2 (up2 (up2 M2 246 3 ((M2 246 3) + 1)) (248 + (M2 246 3)) 0 (M2 246 4)) (248 + (M2 246 3)) 1 ((up2 (up2 M2 246 3 ((M2 246 3) + 1)) (248 + (M2 246 3)) 0 (M2 246 4)) 246 5)) (248 + (M2 246 3)) 2 ((up2 (up2 (up2 M2 246 3 ((M2 246 3) + 1)) (248 + (M2 246 3)) 0 (M2 246 4)) (248 + (M2 246 3)) 1 ((up2 (up2 M2 246 3 ((M2 246 3) + 1)) (248 + (M2 246 3)) 0 (M2 246 4)) 246 5)) (6 + ((up2 (up2 (up2 M2 246 3 ((M2 246 3) + 1)) (248 + (M2 246 3)) 0 (M2 246 4)) (248 + (M2 246 3)) 1 ((up2 (up2 M2 246 3 ((M2 246 3) + 1)) (248 + (M2 246 3)) 0 (M2 246 4)) 246 5)) 246 4)) ((up2 (up2 (up2 M2 246 3 ((M2 246 3) + 1)) (248 + (M2 246 3)) 0 (M2 246 4)) (248 + (M2 246 3)) 1 ((up2 (up2 M2 246 3 ((M2 246 3) + 1)) (248 + (M2 246 3)) 0 (M2 246 4)) 246 5)) 246 6))) (248 + (M2 246 3)) 3 l1) 246 4) * 6) + ((up2 (up2 (up2 (up2 (up2 M2 246 3 ((M2 246 3) + 1)) (248 + (M2 246 3)) 0 (M2 246 4)) (248 + (M2 246 3)) 1 ((up2 (up2 M2 246 3 ((M2 246 3) + 1)) (248 + (M2 246 3)) 0 (M2 246 4)) 246 5)) (248 + (M2 246 3)) 2 ((up2 (up2 (up2 M2 246 3 ((M2 246 3) + 1)) (248 + (M2 246 3)) 0 (M2 246 4)) (248 + (M2 246 3)) 1 ((up2 (up2 M2 246 3 ((M2 246 3) + 1)) (248 + (M2 246 3)) 0 (M2 246 4)) 246 5)) (6 + ((up2 (up2 (up2 M2 246 3 ((M2 246 3) + 1)) (248 + (M2 246 3)) 0 (M2 246 4)) (248 + (M2 246 3)) 1 ((up2 (up2 M2 246 3 ((M2 246 3) + 1)) (248 + (M2 246 3)) 0 (M2 246 4)) 246 5)) 246 4)) ((up2 (up2 (up2 M2 246 3 ((M2 246 3) + 1)) (248 + (M2 246 3)) 0 (M2 246 4)) (248 + (M2 246 3)) 1 ((up2 (up2 M2 246 3 ((M2 246 3) + 1)) (248 + (M2 246 3)) 0 (M2 246 4)) 246 5)) 246 6))) (248 + (M2 246 3)) 3 l1) 246 5))) ((up2 (up2 (up2 (up2 (up2 M2 246 3 ((M2 246 3) + 1)) (248 + (M2 246 3)) 0 (M2 246 4)) (248 + (M2 246 3)) 1 ((up2 (up2 M2 246 3 ((M2 246 3) + 1)) (248 + (M2 246 3)) 0 (M2 246 4)) 246 5)) (248 + (M2 246 3)) 2 ((up2 (up2 (up2 M2 246 3 ((M2 246 3) + 1)) (248 + (M2 246 3)) 0 (M2 246 4)) (248 + (M2 246 3)) 1 ((up2 (up2 M2 246 3 ((M2 246 3) + 1)) (248 + (M2 246 3)) 0 (M2 246 4)) 246 5)) (6 + ((up2 (up2 (up2 M2 246 3 ((M2 246 3) + 1)) (248 + (M2 246 3)) 0 (M2 246 4)) (248 + (M2 246 3)) 1 ((up2 (up2 M2 246 3 ((M2 246 3) + 1)) (248 + (M2 246 3)) 0 (M2 246 4)) 246 5)) 246 4)) ((up2 (up2 (up2 M2 246 3 ((M2 246 3) + 1)) (248 + (M2 246 3)) 0 (M2 246 4)) (248 + (M2 246 3)) 1 ((up2 (up2 M2 246 3 ((M2 246 3) + 1)) (248 + (M2 246 3)) 0 (M2 246 4)) 246 5)) 246 6))) (248 + (M2 246 3)) 3 l1) 246 6))) 246 5))) r1)) 246 6) ∧ r1 - ((up2 (up2 (up2 (up2 (up2 (up2 (up2 M2 246 3 ((M2 246 3) + 1)) (248 + (M2 246 3)) 0 (M2 246 4)) (248 + (M2 246 3)) 1 ((up2 (up2 M2 246 3 ((M2 246 3) + 1)) (248 + (M2 246 3)) 0 (M2 246 4)) 246 5)) (248 + (M2 246 3)) 2 ((up2 (up2 (up2 M2 246 3 ((M2 246 3) + 1)) (248 + (M2 246 3)) 0 (M2 246 4)) (248 + (M2 246 3)) 1 ((up2 (up2 M2 246 3 ((M2 246 3) + 1)) (248 + (M2 246 3)) 0 (M2 246 4)) 246 5)) (6 + ((up2 (up2 (up2 M2 246 3 ((M2 246 3) + 1)) (248 + (M2 246 3)) 0 (M2 246 4)) (248 + (M2 246 3)) 1 ((up2 (up2 M2 246 3 ((M2 246 3) + 1)) (248 + (M2 246 3)) 0 (M2 246 4)) 246 5)) 246 4)) ((up2 (up2 (up2 M2 246 3 ((M2 246 3) + 1)) (248 + (M2 246 3)) 0 (M2 246 4)) (248 + (M2 246 3)) 1 ((up2 (up2 M2 246 3 ((M2 246 3) + 1)) (248 + (M2 246 3)) 0 (M2 246 4)) 246 5)) 246 6))) (248 + (M2 246 3)) 3 l1) (248 + (M2 246 3)) 4 ((up2 (up2 (up2 (up2 (up2 M2 246 3 ((M2 246 3) + 1)) (248 + (M2 246 3)) 0 (M2 246 4)) (248 + (M2 246 3)) 1 ((up2 (up2 M2 246 3 ((M2 246 3) + 1)) (248 + (M2 246 3)) 0 (M2 246 4)) 246 5)) (248 + (M2 246 3)) 2 ((up2 (up2 (up2 M2 246 3 ((M2 246 3) + 1)) (248 + (M2 246 3)) 0 (M2 246 4)) (248 + (M2 246 3)) 1 ((up2 (up2 M2 246 3 ((M2 246 3) + 1)) (248 + (M2 246 3)) 0 (M2 246 4)) 246 5)) (6 + ((up2 (up2 (up2 M2 246 3 ((M2 246 3) + 1)) (248 + (M2 246 3)) 0 (M2 246 4)) (248 + (M2 246 3)) 1 ((up2 (up2 M2 246 3 ((M2 246 3) + 1)) (248 + (M2 246 3)) 0 (M2 246 4)) 246 5)) 246 4)) ((up2 (up2 (up2 M2 246 3 ((M2 246 3) + 1)) (248 + (M2 246 3)) 0 (M2 246 4)) (248 + (M2 246 3)) 1 ((up2 (up2 M2 246 3 ((M2 246 3) + 1)) (248 + (M2 246 3)) 0 (M2 246 4)) 246 5)) 246 6))) (248 + (M2 246 3)) 3 l1) (15 + ((((up2 (up2 (up2 (up2 (up2 M2 246 3 ((M2 246 3) + 1)) (248 + (M2 246 3)) 0 (M2 246 4)) (248 + (M2 246 3)) 1 ((up2 (up2 M2 246 3 ((M2 246 3) + 1)) (248 + (M2 246 3)) 0 (M2 246 4)) 246 5)) (248 + (M2 246 3)) 2 ((up2 (up2 (up2 M2 246 3 ((M2 246 3) + 1)) (248 + (M2 246 3)) 0 (M2 246 4)) (248 + (M2 246 3)) 1 ((up2 (up2 M2 246 3 ((M2 246 3) + 1)) (248 + (M2 246 3)) 0 (M2 246 4)) 246 5)) (6 + ((up2 (up2 (up2 M2 246 3 ((M2 246 3) + 1)) (248 + (M2 246 3)) 0 (M2 246 4)) (248 + (M2 246 3)) 1 ((up2 (up2 M2 246 3 ((M2 246 3) + 1)) (248 + (M2 246 3)) 0 (M2 246 4)) 246 5)) 246 4)) ((up2 (up2 (up2 M2 246 3 ((M2 246 3) + 1)) (248 + (M2 246 3)) 0 (M2 246 4)) (248 + (M2 246 3)) 1 ((up2 (up2 M2 246 3 ((M2 246 3) + 1)) (248 + (M2 246 3)) 0 (M2 246 4)) 246 5)) 246 6))) (248 + (M2 246 3)) 3 l1) 246 4) * 6) + ((up2 (up2 (up2 (up2 (up2 M2 246 3 ((M2 246 3) + 1)) (248 + (M2 246 3)) 0 (M2 246 4)) (248 + (M2 246 3)) 1 ((up2 (up2 M2 246 3 ((M2 246 3) + 1)) (248 + (M2 246 3)) 0 (M2 246 4)) 246 5)) (248 + (M2 246 3)) 2 ((up2 (up2 (up2 M2 246 3 ((M2 246 3) + 1)) (248 + (M2 246 3)) 0 (M2 246 4)) (248 + (M2 246 3)) 1 ((up2 (up2 M2 246 3 ((M2 246 3) + 1)) (248 + (M2 246 3)) 0 (M2 246 4)) 246 5)) (6 + ((up2 (up2 (up2 M2 246 3 ((M2 246 3) + 1)) (248 + (M2 246 3)) 0 (M2 246 4)) (248 + (M2 246 3)) 1 ((up2 (up2 M2 246 3 ((M2 246 3) + 1)) (248 + (M2 246 3)) 0 (M2 246 4)) 246 5)) 246 4)) ((up2 (up2 (up2 M2 246 3 ((M2 246 3) + 1)) (248 + (M2 246 3)) 0 (M2 246 4)) (248 + (M2 246 3)) 1 ((up2 (up2 M2 246 3 ((M2 246 3) + 1)) (248 + (M2 246 3)) 0 (M2 246 4)) 246 5)) 246 6))) (248 + (M2 246 3)) 3 l1) 246 5))) ((up2 (up2 (up2 (up2 (up2 M2 246 3 ((M2 246 3) + 1)) (248 + (M2 246 3)) 0 (M2 246 4)) (248 + (M2 246 3)) 1 ((up2 (up2 M2 246 3 ((M2 246 3) + 1)) (248 + (M2 246 3)) 0 (M2 246 4)) 246 5)) (248 + (M2 246 3)) 2 ((up2 (up2 (up2 M2 246 3 ((M2 246 3) + 1)) (248 + (M2 246 3)) 0 (M2 246 4)) (248 + (M2 246 3)) 1 ((up2 (up2 M2 246 3 ((M2 246 3) + 1)) (248 + (M2 246 3)) 0 (M2 246 4)) 246 5)) (6 + ((up2 (up2 (up2 M2 246 3 ((M2 246 3) + 1)) (248 + (M2 246 3)) 0 (M2 246 4)) (248 + (M2 246 3)) 1 ((up2 (up2 M2 246 3 ((M2 246 3) + 1)) (248 + (M2 246 3)) 0 (M2 246 4)) 246 5)) 246 4)) ((up2 (up2 (up2 M2 246 3 ((M2 246 3) + 1)) (248 + (M2 246 3)) 0 (M2 246 4)) (248 + (M2 246 3)) 1 ((up2 (up2 M2 246 3 ((M2 246 3) + 1)) (248 + (M2 246 3)) 0 (M2 246 4)) 246 5)) 246 6))) (248 + (M2 246 3)) 3 l1) 246 6))) (248 + (M2 246 3)) 5 ((up2 (up2 (up2 (up2 (up2 (up2 M2 246 3 ((M2 246 3) + 1)) (248 + (M2 246 3)) 0 (M2 246 4)) (248 + (M2 246 3)) 1 ((up2 (up2 M2 246 3 ((M2 246 3) + 1)) (248 + (M2 246 3)) 0 (M2 246 4)) 246 5)) (248 + (M2 246 3)) 2 ((up2 (up2 (up2 M2 246 3 ((M2 246 3) + 1)) (248 + (M2 246 3)) 0 (M2 246 4)) (248 + (M2 246 3)) 1 ((up2 (up2 M2 246 3 ((M2 246 3) + 1)) (248 + (M2 246 3)) 0 (M2 246 4)) 246 5)) (6 + ((up2 (up2 (up2 M2 246 3 ((M2 246 3) + 1)) (248 + (M2 246 3)) 0 (M2 246 4)) (248 + (M2 246 3)) 1 ((up2 (up2 M2 246 3 ((M2 246 3) + 1)) (248 + (M2 246 3)) 0 (M2 246 4)) 246 5)) 246 4)) ((up2 (up2 (up2 M2 246 3 ((M2 246 3) + 1)) (248 + (M2 246 3)) 0 (M2 246 4)) (248 + (M2 246 3)) 1 ((up2 (up2 M2 246 3 ((M2 246 3) + 1)) (248 + (M2 246 3)) 0 (M2 246 4)) 246 5)) 246 6))) (248 + (M2 246 3)) 3 l1) (248 + (M2 246 3)) 4 ((up2 (up2 (up2 (up2 (up2 M2 246 3 ((M2 246 3) + 1)) (248 + (M2 246 3)) 0 (M2 246 4)) (248 + (M2 246 3)) 1 ((up2 (up2 M2 246 3 ((M2 246 3) + 1)) (248 + (M2 246 3)) 0 (M2 246 4)) 246 5)) (248 + (M2 246 3)) 2 ((up2 (up2 (up2 M2 246 3 ((M2 246 3) + 1)) (248 + (M2 246 3)) 0 (M2 246 4)) (248 + (M2 246 3)) 1 ((up2 (up2 M2 246 3 ((M2 246 3) + 1)) (248 + (M2 246 3)) 0 (M2 246 4)) 246 5)) (6 + ((up2 (up2 (up2 M2 246 3 ((M2 246 3) + 1)) (248 + (M2 246 3)) 0 (M2 246 4)) (248 + (M2 246 3)) 1 ((up2 (up2 M2 246 3 ((M2 246 3) + 1)) (248 + (M2 246 3)) 0 (M2 246 4)) 246 5)) 246 4)) ((up2 (up2 (up2 M2 246 3 ((M2 246 3) + 1)) (248 + (M2 246 3)) 0 (M2 246 4)) (248 + (M2 246 3)) 1 ((up2 (up2 M2 246 3 ((M2 246 3) + 1)) (248 + (M2 246 3)) 0 (M2 246 4)) 246 5)) 246 6))) (248 + (M2 246 3)) 3 l1) (15 + ((((up2 (up2 (up2 (up2 (up2 M2 246 3 ((M2 246 3) + 1)) (248 + (M2 246 3)) 0 (M2 246 4)) (248 + (M2 246 3)) 1 ((up2 (up2 M2 246 3 ((M2 246 3) + 1)) (248 + (M2 246 3)) 0 (M2 246 4)) 246 5)) (248 + (M2 246 3)) 2 ((up2 (up2 (up2 M2 246 3 ((M2 246 3) + 1)) (248 + (M2 246 3)) 0 (M2 246 4)) (248 + (M2 246 3)) 1 ((up2 (up2 M2 246 3 ((M2 246 3) + 1)) (248 + (M2 246 3)) 0 (M2 246 4)) 246 5)) (6 + ((up2 (up2 (up2 M2 246 3 ((M2 246 3) + 1)) (248 + (M2 246 3)) 0 (M2 246 4)) (248 + (M2 246 3)) 1 ((up2 (up2 M2 246 3 ((M2 246 3) + 1)) (248 + (M2 246 3)) 0 (M2 246 4)) 246 5)) 246 4)) ((up2 (up2 (up2 M2 246 3 ((M2 246 3) + 1)) (248 + (M2 246 3)) 0 (M2 246 4)) (248 + (M2 246 3)) 1 ((up2 (up2 M2 246 3 ((M2 246 3) + 1)) (248 + (M2 246 3)) 0 (M2 246 4)) 246 5)) 246 6))) (248 + (M2 246 3)) 3 l1) 246 4) * 6) + ((up2 (up2 (up2 (up2 (up2 M2 246 3 ((M2 246 3) + 1)) (248 + (M2 246 3)) 0 (M2 246 4)) (248 + (M2 246 3)) 1 ((up2 (up2 M2 246 3 ((M2 246 3) + 1)) (248 + (M2 246 3)) 0 (M2 246 4)) 246 5)) (248 + (M2 246 3)) 2 ((up2 (up2 (up2 M2 246 3 ((M2 246 3) + 1)) (248 + (M2 246 3)) 0 (M2 246 4)) (248 + (M2 246 3)) 1 ((up2 (up2 M2 246 3 ((M2 246 3) + 1)) (248 + (M2 246 3)) 0 (M2 246 4)) 246 5)) (6 + ((up2 (up2 (up2 M2 246 3 ((M2 246 3) + 1)) (248 + (M2 246 3)) 0 (M2 246 4)) (248 + (M2 246 3)) 1 ((up2 (up2 M2 246 3 ((M2 246 3) + 1)) (248 + (M2 246 3)) 0 (M2 246 4)) 246 5)) 246 4)) ((up2 (up2 (up2 M2 246 3 ((M2 246 3) + 1)) (248 + (M2 246 3)) 0 (M2 246 4)) (248 + (M2 246 3)) 1 ((up2 (up2 M2 246 3 ((M2 246 3) + 1)) (248 + (M2 246 3)) 0 (M2 246 4)) 246 5)) 246 6))) (248 + (M2 246 3)) 3 l1) 246 5))) ((up2 (up2 (up2 (up2 (up2 M2 246 3 ((M2 246 3) + 1)) (248 + (M2 246 3)) 0 (M2 246 4)) (248 + (M2 246 3)) 1 ((up2 (up2 M2 246 3 ((M2 246 3) + 1)) (248 + (M2 246 3)) 0 (M2 246 4)) 246 5)) (248 + (M2 246 3)) 2 ((up2 (up2 (up2 M2 246 3 ((M2 246 3) + 1)) (248 + (M2 246 3)) 0 (M2 246 4)) (248 + (M2 246 3)) 1 ((up2 (up2 M2 246 3 ((M2 246 3) + 1)) (248 + (M2 246 3)) 0 (M2 246 4)) 246 5)) (6 + ((up2 (up2 (up2 M2 246 3 ((M2 246 3) + 1)) (248 + (M2 246 3)) 0 (M2 246 4)) (248 + (M2 246 3)) 1 ((up2 (up2 M2 246 3 ((M2 246 3) + 1)) (248 + (M2 246 3)) 0 (M2 246 4)) 246 5)) 246 4)) ((up2 (up2 (up2 M2 246 3 ((M2 246 3) + 1)) (248 + (M2 246 3)) 0 (M2 246 4)) (248 + (M2 246 3)) 1 ((up2 (up2 M2 246 3 ((M2 246 3) + 1)) (248 + (M2 246 3)) 0 (M2 246 4)) 246 5)) 246 6))) (248 + (M2 246 3)) 3 l1) 246 6))) (15 + ((((up2 (up2 (up2 (up2 (up2 (up2 M2 246 3 ((M2 246 3) + 1)) (248 + (M2 246 3)) 0 (M2 246 4)) (248 + (M2 246 3)) 1 ((up2 (up2 M2 246 3 ((M2 246 3) + 1)) (248 + (M2 246 3)) 0 (M2 246 4)) 246 5)) (248 + (M2 246 3)) 2 ((up2 (up2 (up2 M2 246 3 ((M2 246 3) + 1)) (248 + (M2 246 3)) 0 (M2 246 4)) (248 + (M2 246 3)) 1 ((up2 (up2 M2 246 3 ((M2 246 3) + 1)) (248 + (M2 246 3)) 0 (M2 246 4)) 246 5)) (6 + ((up2 (up2 (up2 M2 246 3 ((M2 246 3) + 1)) (248 + (M2 246 3)) 0 (M2 246 4)) (248 + (M2 246 3)) 1 ((up2 (up2 M2 246 3 ((M2 246 3) + 1)) (248 + (M2 246 3)) 0 (M2 246 4)) 246 5)) 246 4)) ((up2 (up2 (up2 M2 246 3 ((M2 246 3) + 1)) (248 + (M2 246 3)) 0 (M2 246 4)) (248 + (M2 246 3)) 1 ((up2 (up2 M2 246 3 ((M2 246 3) + 1)) (248 + (M2 246 3)) 0 (M2 246 4)) 246 5)) 246 6))) (248 + (M2 246 3)) 3 l1) (248 + (M2 246 3)) 4 ((up2 (up2 (up2 (up2 (up2 M2 246 3 ((M2 246 3) + 1)) (248 + (M2 246 3)) 0 (M2 246 4)) (248 + (M2 246 3)) 1 ((up2 (up2 M2 246 3 ((M2 246 3) + 1)) (248 + (M2 246 3)) 0 (M2 246 4)) 246 5)) (248 + (M2 246 3)) 2 ((up2 (up2 (up2 M2 246 3 ((M2 246 3) + 1)) (248 + (M2 246 3)) 0 (M2 246 4)) (248 + (M2 246 3)) 1 ((up2 (up2 M2 246 3 ((M2 246 3) + 1)) (248 + (M2 246 3)) 0 (M2 246 4)) 246 5)) (6 + ((up2 (up2 (up2 M2 246 3 ((M2 246 3) + 1)) (248 + (M2 246 3)) 0 (M2 246 4)) (248 + (M2 246 3)) 1 ((up2 (up2 M2 246 3 ((M2 246 3) + 1)) (248 + (M2 246 3)) 0 (M2 246 4)) 246 5)) 246 4)) ((up2 (up2 (up2 M2 246 3 ((M2 246 3) + 1)) (248 + (M2 246 3)) 0 (M2 246 4)) (248 + (M2 246 3)) 1 ((up2 (up2 M2 246 3 ((M2 246 3) + 1)) (248 + (M2 246 3)) 0 (M2 246 4)) 246 5)) 246 6))) (248 + (M2 246 3)) 3 l1) (15 + ((((up2 (up2 (up2 (up2 (up2 M2 246 3 ((M2 246 3) + 1)) (248 + (M2 246 3)) 0 (M2 246 4)) (248 + (M2 246 3)) 1 ((up2 (up2 M2 246 3 ((M2 246 3) + 1)) (248 + (M2 246 3)) 0 (M2 246 4)) 246 5)) (248 + (M2 246 3)) 2 ((up2 (up2 (up2 M2 246 3 ((M2 246 3) + 1)) (248 + (M2 246 3)) 0 (M2 246 4)) (248 + (M2 246 3)) 1 ((up2 (up2 M2 246 3 ((M2 246 3) + 1)) (248 + (M2 246 3)) 0 (M2 246 4)) 246 5)) (6 + ((up2 (up2 (up2 M2 246 3 ((M2 246 3) + 1)) (248 + (M2 246 3)) 0 (M2 246 4)) (248 + (M2 246 3)) 1 ((up2 (up2 M2 246 3 ((M2 246 3) + 1)) (248 + (M2 246 3)) 0 (M2 246 4)) 246 5)) 246 4)) ((up2 (up2 (up2 M2 246 3 ((M2 246 3) + 1)) (248 + (M2 246 3)) 0 (M2 246 4)) (248 + (M2 246 3)) 1 ((up2 (up2 M2 246 3 ((M2 246 3) + 1)) (248 + (M2 246 3)) 0 (M2 246 4)) 246 5)) 246 6))) (248 + (M2 246 3)) 3 l1) 246 4) * 6) + ((up2 (up2 (up2 (up2 (up2 M2 246 3 ((M2 246 3) + 1)) (248 + (M2 246 3)) 0 (M2 246 4)) (248 + (M2 246 3)) 1 ((up2 (up2 M2 246 3 ((M2 246 3) + 1)) (248 + (M2 246 3)) 0 (M2 246 4)) 246 5)) (248 + (M2 246 3)) 2 ((up2 (up2 (up2 M2 246 3 ((M2 246 3) + 1)) (248 + (M2 246 3)) 0 (M2 246 4)) (248 + (M2 246 3)) 1 ((up2 (up2 M2 246 3 ((M2 246 3) + 1)) (248 + (M2 246 3)) 0 (M2 246 4)) 246 5)) (6 + ((up2 (up2 (up2 M2 246 3 ((M2 246 3) + 1)) (248 + (M2 246 3)) 0 (M2 246 4)) (248 + (M2 246 3)) 1 ((up2 (up2 M2 246 3 ((M2 246 3) + 1)) (248 + (M2 246 3)) 0 (M2 246 4)) 246 5)) 246 4)) ((up2 (up2 (up2 M2 246 3 ((M2 246 3) + 1)) (248 + (M2 246 3)) 0 (M2 246 4)) (248 + (M2 246 3)) 1 ((up2 (up2 M2 246 3 ((M2 246 3) + 1)) (248 + (M2 246 3)) 0 (M2 246 4)) 246 5)) 246 6))) (248 + (M2 246 3)) 3 l1) 246 5))) ((up2 (up2 (up2 (up2 (up2 M2 246 3 ((M2 246 3) + 1)) (248 + (M2 246 3)) 0 (M2 246 4)) (248 + (M2 246 3)) 1 ((up2 (up2 M2 246 3 ((M2 246 3) + 1)) (248 + (M2 246 3)) 0 (M2 246 4)) 246 5)) (248 + (M2 246 3)) 2 ((up2 (up2 (up2 M2 246 3 ((M2 246 3) + 1)) (248 + (M2 246 3)) 0 (M2 246 4)) (248 + (M2 246 3)) 1 ((up2 (up2 M2 246 3 ((M2 246 3) + 1)) (248 + (M2 246 3)) 0 (M2 246 4)) 246 5)) (6 + ((up2 (up2 (up2 M2 246 3 ((M2 246 3) + 1)) (248 + (M2 246 3)) 0 (M2 246 4)) (248 + (M2 246 3)) 1 ((up2 (up2 M2 246 3 ((M2 246 3) + 1)) (248 + (M2 246 3)) 0 (M2 246 4)) 246 5)) 246 4)) ((up2 (up2 (up2 M2 246 3 ((M2 246 3) + 1)) (248 + (M2 246 3)) 0 (M2 246 4)) (248 + (M2 246 3)) 1 ((up2 (up2 M2 246 3 ((M2 246 3) + 1)) (248 + (M2 246 3)) 0 (M2 246 4)) 246 5)) 246 6))) (248 + (M2 246 3)) 3 l1) 246 6))) 246 4) * 6) + ((up2 (up2 (up2 (up2 (up2 (up2 M2 246 3 ((M2 246 3) + 1)) (248 + (M2 246 3)) 0 (M2 246 4)) (248 + (M2 246 3)) 1 ((up2 (up2 M2 246 3 ((M2 246 3) + 1)) (248 + (M2 246 3)) 0 (M2 246 4)) 246 5)) (248 + (M2 246 3)) 2 ((up2 (up2 (up2 M2 246 3 ((M2 246 3) + 1)) (248 + (M2 246 3)) 0 (M2 246 4)) (248 + (M2 246 3)) 1 ((up2 (up2 M2 246 3 ((M2 246 3) + 1)) (248 + (M2 246 3)) 0 (M2 246 4)) 246 5)) (6 + ((up2 (up2 (up2 M2 246 3 ((M2 246 3) + 1)) (248 + (M2 246 3)) 0 (M2 246 4)) (248 + (M2 246 3)) 1 ((up2 (up2 M2 246 3 ((M2 246 3) + 1)) (248 + (M2 246 3)) 0 (M2 246 4)) 246 5)) 246 4)) ((up2 (up2 (up2 M2 246 3 ((M2 246 3) + 1)) (248 + (M2 246 3)) 0 (M2 246 4)) (248 + (M2 246 3)) 1 ((up2 (up2 M2 246 3 ((M2 246 3) + 1)) (248 + (M2 246 3)) 0 (M2 246 4)) 246 5)) 246 6))) (248 + (M2 246 3)) 3 l1) (248 + (M2 246 3)) 4 ((up2 (up2 (up2 (up2 (up2 M2 246 3 ((M2 246 3) + 1)) (248 + (M2 246 3)) 0 (M2 246 4)) (248 + (M2 246 3)) 1 ((up2 (up2 M2 246 3 ((M2 246 3) + 1)) (248 + (M2 246 3)) 0 (M2 246 4)) 246 5)) (248 + (M2 246 3)) 2 ((up2 (up2 (up2 M2 246 3 ((M2 246 3) + 1)) (248 + (M2 246 3)) 0 (M2 246 4)) (248 + (M2 246 3)) 1 ((up2 (up2 M2 246 3 ((M2 246 3) + 1)) (248 + (M2 246 3)) 0 (M2 246 4)) 246 5)) (6 + ((up2 (up2 (up2 M2 246 3 ((M2 246 3) + 1)) (248 + (M2 246 3)) 0 (M2 246 4)) (248 + (M2 246 3)) 1 ((up2 (up2 M2 246 3 ((M2 246 3) + 1)) (248 + (M2 246 3)) 0 (M2 246 4)) 246 5)) 246 4)) ((up2 (up2 (up2 M2 246 3 ((M2 246 3) + 1)) (248 + (M2 246 3)) 0 (M2 246 4)) (248 + (M2 246 3)) 1 ((up2 (up2 M2 246 3 ((M2 246 3) + 1)) (248 + (M2 246 3)) 0 (M2 246 4)) 246 5)) 246 6))) (248 + (M2 246 3)) 3 l1) (15 + ((((up2 (up2 (up2 (up2 (up2 M2 246 3 ((M2 246 3) + 1)) (248 + (M2 246 3)) 0 (M2 246 4)) (248 + (M2 246 3)) 1 ((up2 (up2 M2 246 3 ((M2 246 3) + 1)) (248 + (M2 246 3)) 0 (M2 246 4)) 246 5)) (248 + (M2 246 3)) 2 ((up2 (up2 (up2 M2 246 3 ((M2 246 3) + 1)) (248 + (M2 246 3)) 0 (M2 246 4)) (248 + (M2 246 3)) 1 ((up2 (up2 M2 246 3 ((M2 246 3) + 1)) (248 + (M2 246 3)) 0 (M2 246 4)) 246 5)) (6 + ((up2 (up2 (up2 M2 246 3 ((M2 246 3) + 1)) (248 + (M2 246 3)) 0 (M2 246 4)) (248 + (M2 246 3)) 1 ((up2 (up2 M2 246 3 ((M2 246 3) + 1)) (248 + (M2 246 3)) 0 (M2 246 4)) 246 5)) 246 4)) ((up2 (up2 (up2 M2 246 3 ((M2 246 3) + 1)) (248 + (M2 246 3)) 0 (M2 246 4)) (248 + (M2 246 3)) 1 ((up2 (up2 M2 246 3 ((M2 246 3) + 1)) (248 + (M2 246 3)) 0 (M2 246 4)) 246 5)) 246 6))) (248 + (M2 246 3)) 3 l1) 246 4) * 6) + ((up2 (up2 (up2 (up2 (up2 M2 246 3 ((M2 246 3) + 1)) (248 + (M2 246 3)) 0 (M2 246 4)) (248 + (M2 246 3)) 1 ((up2 (up2 M2 246 3 ((M2 246 3) + 1)) (248 + (M2 246 3)) 0 (M2 246 4)) 246 5)) (248 + (M2 246 3)) 2 ((up2 (up2 (up2 M2 246 3 ((M2 246 3) + 1)) (248 + (M2 246 3)) 0 (M2 246 4)) (248 + (M2 246 3)) 1 ((up2 (up2 M2 246 3 ((M2 246 3) + 1)) (248 + (M2 246 3)) 0 (M2 246 4)) 246 5)) (6 + ((up2 (up2 (up2 M2 246 3 ((M2 246 3) + 1)) (248 + (M2 246 3)) 0 (M2 246 4)) (248 + (M2 246 3)) 1 ((up2 (up2 M2 246 3 ((M2 246 3) + 1)) (248 + (M2 246 3)) 0 (M2 246 4)) 246 5)) 246 4)) ((up2 (up2 (up2 M2 246 3 ((M2 246 3) + 1)) (248 + (M2 246 3)) 0 (M2 246 4)) (248 + (M2 246 3)) 1 ((up2 (up2 M2 246 3 ((M2 246 3) + 1)) (248 + (M2 246 3)) 0 (M2 246 4)) 246 5)) 246 6))) (248 + (M2 246 3)) 3 l1) 246 5))) ((up2 (up2 (up2 (up2 (up2 M2 246 3 ((M2 246 3) + 1)) (248 + (M2 246 3)) 0 (M2 246 4)) (248 + (M2 246 3)) 1 ((up2 (up2 M2 246 3 ((M2 246 3) + 1)) (248 + (M2 246 3)) 0 (M2 246 4)) 246 5)) (248 + (M2 246 3)) 2 ((up2 (up2 (up2 M2 246 3 ((M2 246 3) + 1)) (248 + (M2 246 3)) 0 (M2 246 4)) (248 + (M2 246 3)) 1 ((up2 (up2 M2 246 3 ((M2 246 3) + 1)) (248 + (M2 246 3)) 0 (M2 246 4)) 246 5)) (6 + ((up2 (up2 (up2 M2 246 3 ((M2 246 3) + 1)) (248 + (M2 246 3)) 0 (M2 246 4)) (248 + (M2 246 3)) 1 ((up2 (up2 M2 246 3 ((M2 246 3) + 1)) (248 + (M2 246 3)) 0 (M2 246 4)) 246 5)) 246 4)) ((up2 (up2 (up2 M2 246 3 ((M2 246 3) + 1)) (248 + (M2 246 3)) 0 (M2 246 4)) (248 + (M2 246 3)) 1 ((up2 (up2 M2 246 3 ((M2 246 3) + 1)) (248 + (M2 246 3)) 0 (M2 246 4)) 246 5)) 246 6))) (248 + (M2 246 3)) 3 l1) 246 6))) 246 5))) r1)) 246 6) ≤ 2147483647) ∧ Calls mX1_price [(0, (up2 (up2 (up2 (up2 (up2 (up2 (up2 M2 246 3 ((M2 246 3) + 1)) (248 + (M2 246 3)) 0 (M2 246 4)) (248 + (M2 246 3)) 1 ((up2 (up2 M2 246 3 ((M2 246 3) + 1)) (248 + (M2 246 3)) 0 (M2 246 4)) 246 5)) (248 + (M2 246 3)) 2 ((up2 (up2 (up2 M2 246 3 ((M2 246 3) + 1)) (248 + (M2 246 3)) 0 (M2 246 4)) (248 + (M2 246 3)) 1 ((up2 (up2 M2 246 3 ((M2 246 3) + 1)) (248 + (M2 246 3)) 0 (M2 246 4)) 246 5)) (6 + ((up2 (up2 (up2 M2 246 3 ((M2 246 3) + 1)) (248 + (M2 246 3)) 0 (M2 246 4)) (248 + (M2 246 3)) 1 ((up2 (up2 M2 246 3 ((M2 246 3) + 1)) (248 + (M2 246 3)) 0 (M2 246 4)) 246 5)) 246 4)) ((up2 (up2 (up2 M2 246 3 ((M2 246 3) + 1)) (248 + (M2 246 3)) 0 (M2 246 4)) (248 + (M2 246 3)) 1 ((up2 (up2 M2 246 3 ((M2 246 3) + 1)) (248 + (M2 246 3)) 0 (M2 246 4)) 246 5)) 246 6))) (248 + (M2 246 3)) 3 l1) (248 + (M2 246 3)) 4 ((up2 (up2 (up2 (up2 (up2 M2 246 3 ((M2 246 3) + 1)) (248 + (M2 246 3)) 0 (M2 246 4)) (248 + (M2 246 3)) 1 ((up2 (up2 M2 246 3 ((M2 246 3) + 1)) (248 + (M2 246 3)) 0 (M2 246 4)) 246 5)) (248 + (M2 246 3)) 2 ((up2 (up2 (up2 M2 246 3 ((M2 246 3) + 1)) (248 + (M2 246 3)) 0 (M2 246 4)) (248 + (M2 246 3)) 1 ((up2 (up2 M2 246 3 ((M2 246 3) + 1)) (248 + (M2 246 3)) 0 (M2 246 4)) 246 5)) (6 + ((up2 (up2 (up2 M2 246 3 ((M2 246 3) + 1)) (248 + (M2 246 3)) 0 (M2 246 4)) (248 + (M2 246 3)) 1 ((up2 (up2 M2 246 3 ((M2 246 3) + 1)) (248 + (M2 246 3)) 0 (M2 246 4)) 246 5)) 246 4)) ((up2 (up2 (up2 M2 246 3 ((M2 246 3) + 1)) (248 + (M2 246 3)) 0 (M2 246 4)) (248 + (M2 246 3)) 1 ((up2 (up2 M2 246 3 ((M2 246 3) + 1)) (248 + (M2 246 3)) 0 (M2 246 4)) 246 5)) 246 6))) (248 + (M2 246 3)) 3 l1) (15 + ((((up2 (up2 (up2 (up2 (up2 M2 246 3 ((M2 246 3) + 1)) (248 + (M2 246 3)) 0 (M2 246 4)) (248 + (M2 246 3)) 1 ((up2 (up2 M2 246 3 ((M2 246 3) + 1)) (248 + (M2 246 3)) 0 (M2 246 4)) 246 5)) (248 + (M2 246 3)) 2 ((up2 (up2 (up2 M2 246 3 ((M2 246 3) + 1)) (248 + (M2 246 3)) 0 (M2 246 4)) (248 + (M2 246 3)) 1 ((up2 (up2 M2 246 3 ((M2 246 3) + 1)) (248 + (M2 246 3)) 0 (M2 246 4)) 246 5)) (6 + ((up2 (up2 (up2 M2 246 3 ((M2 246 3) + 1)) (248 + (M2 246 3)) 0 (M2 246 4)) (248 + (M2 246 3)) 1 ((up2 (up2 M2 246 3 ((M2 246 3) + 1)) (248 + (M2 246 3)) 0 (M2 246 4)) 246 5)) 246 4)) ((up2 (up2 (up2 M2 246 3 ((M2 246 3) + 1)) (248 + (M2 246 3)) 0 (M2 246 4)) (248 + (M2 246 3)) 1 ((up2 (up2 M2 246 3 ((M2 246 3) + 1)) (248 + (M2 246 3)) 0 (M2 246 4)) 246 5)) 246 6))) (248 + (M2 246 3)) 3 l1) 246 4) * 6) + ((up2 (up2 (up2 (up2 (up2 M2 246 3 ((M2 246 3) + 1)) (248 + (M2 246 3)) 0 (M2 246 4)) (248 + (M2 246 3)) 1 ((up2 (up2 M2 246 3 ((M2 246 3) + 1)) (248 + (M2 246 3)) 0 (M2 246 4)) 246 5)) (248 + (M2 246 3)) 2 ((up2 (up2 (up2 M2 246 3 ((M2 246 3) + 1)) (248 + (M2 246 3)) 0 (M2 246 4)) (248 + (M2 246 3)) 1 ((up2 (up2 M2 246 3 ((M2 246 3) + 1)) (248 + (M2 246 3)) 0 (M2 246 4)) 246 5)) (6 + ((up2 (up2 (up2 M2 246 3 ((M2 246 3) + 1)) (248 + (M2 246 3)) 0 (M2 246 4)) (248 + (M2 246 3)) 1 ((up2 (up2 M2 246 3 ((M2 246 3) + 1)) (248 + (M2 246 3)) 0 (M2 246 4)) 246 5)) 246 4)) ((up2 (up2 (up2 M2 246 3 ((M2 246 3) + 1)) (248 + (M2 246 3)) 0 (M2 246 4)) (248 + (M2 246 3)) 1 ((up2 (up2 M2 246 3 ((M2 246 3) + 1)) (248 + (M2 246 3)) 0 (M2 246 4)) 246 5)) 246 6))) (248 + (M2 246 3)) 3 l1) 246 5))) ((up2 (up2 (up2 (up2 (up2 M2 246 3 ((M2 246 3) + 1)) (248 + (M2 246 3)) 0 (M2 246 4)) (248 + (M2 246 3)) 1 ((up2 (up2 M2 246 3 ((M2 246 3) + 1)) (248 + (M2 246 3)) 0 (M2 246 4)) 246 5)) (248 + (M2 246 3)) 2 ((up2 (up2 (up2 M2 246 3 ((M2 246 3) + 1)) (248 + (M2 246 3)) 0 (M2 246 4)) (248 + (M2 246 3)) 1 ((up2 (up2 M2 246 3 ((M2 246 3) + 1)) (248 + (M2 246 3)) 0 (M2 246 4)) 246 5)) (6 + ((up2 (up2 (up2 M2 246 3 ((M2 246 3) + 1)) (248 + (M2 246 3)) 0 (M2 246 4)) (248 + (M2 246 3)) 1 ((up2 (up2 M2 246 3 ((M2 246 3) + 1)) (248 + (M2 246 3)) 0 (M2 246 4)) 246 5)) 246 4)) ((up2 (up2 (up2 M2 246 3 ((M2 246 3) + 1)) (248 + (M2 246 3)) 0 (M2 246 4)) (248 + (M2 246 3)) 1 ((up2 (up2 M2 246 3 ((M2 246 3) + 1)) (248 + (M2 246 3)) 0 (M2 246 4)) 246 5)) 246 6))) (248 + (M2 246 3)) 3 l1) 246 6))) (248 + (M2 246 3)) 5 ((up2 (up2 (up2 (up2 (up2 (up2 M2 246 3 ((M2 246 3) + 1)) (248 + (M2 246 3)) 0 (M2 246 4)) (248 + (M2 246 3)) 1 ((up2 (up2 M2 246 3 ((M2 246 3) + 1)) (248 + (M2 246 3)) 0 (M2 246 4)) 246 5)) (248 + (M2 246 3)) 2 ((up2 (up2 (up2 M2 246 3 ((M2 246 3) + 1)) (248 + (M2 246 3)) 0 (M2 246 4)) (248 + (M2 246 3)) 1 ((up2 (up2 M2 246 3 ((M2 246 3) + 1)) (248 + (M2 246 3)) 0 (M2 246 4)) 246 5)) (6 + ((up2 (up2 (up2 M2 246 3 ((M2 246 3) + 1)) (248 + (M2 246 3)) 0 (M2 246 4)) (248 + (M2 246 3)) 1 ((up2 (up2 M2 246 3 ((M2 246 3) + 1)) (248 + (M2 246 3)) 0 (M2 246 4)) 246 5)) 246 4)) ((up2 (up2 (up2 M2 246 3 ((M2 246 3) + 1)) (248 + (M2 246 3)) 0 (M2 246 4)) (248 + (M2 246 3)) 1 ((up2 (up2 M2 246 3 ((M2 246 3) + 1)) (248 + (M2 246 3)) 0 (M2 246 4)) 246 5)) 246 6))) (248 + (M2 246 3)) 3 l1) (248 + (M2 246 3)) 4 ((up2 (up2 (up2 (up2 (up2 M2 246 3 ((M2 246 3) + 1)) (248 + (M2 246 3)) 0 (M2 246 4)) (248 + (M2 246 3)) 1 ((up2 (up2 M2 246 3 ((M2 246 3) + 1)) (248 + (M2 246 3)) 0 (M2 246 4)) 246 5)) (248 + (M2 246 3)) 2 ((up2 (up2 (up2 M2 246 3 ((M2 246 3) + 1)) (248 + (M2 246 3)) 0 (M2 246 4)) (248 + (M2 246 3)) 1 ((up2 (up2 M2 246 3 ((M2 246 3) + 1)) (248 + (M2 246 3)) 0 (M2 246 4)) 246 5)) (6 + ((up2 (up2 (up2 M2 246 3 ((M2 246 3) + 1)) (248 + (M2 246 3)) 0 (M2 246 4)) (248 + (M2 246 3)) 1 ((up2 (up2 M2 246 3 ((M2 246 3) + 1)) (248 + (M2 246 3)) 0 (M2 246 4)) 246 5)) 246 4)) ((up2 (up2 (up2 M2 246 3 ((M2 246 3) + 1)) (248 + (M2 246 3)) 0 (M2 246 4)) (248 + (M2 246 3)) 1 ((up2 (up2 M2 246 3 ((M2 246 3) + 1)) (248 + (M2 246 3)) 0 (M2 246 4)) 246 5)) 246 6))) (248 + (M2 246 3)) 3 l1) (15 + ((((up2 (up2 (up2 (up2 (up2 M2 246 3 ((M2 246 3) + 1)) (248 + (M2 246 3)) 0 (M2 246 4)) (248 + (M2 246 3)) 1 ((up2 (up2 M2 246 3 ((M2 246 3) + 1)) (248 + (M2 246 3)) 0 (M2 246 4)) 246 5)) (248 + (M2 246 3)) 2 ((up2 (up2 (up2 M2 246 3 ((M2 246 3) + 1)) (248 + (M2 246 3)) 0 (M2 246 4)) (248 + (M2 246 3)) 1 ((up2 (up2 M2 246 3 ((M2 246 3) + 1)) (248 + (M2 246 3)) 0 (M2 246 4)) 246 5)) (6 + ((up2 (up2 (up2 M2 246 3 ((M2 246 3) + 1)) (248 + (M2 246 3)) 0 (M2 246 4)) (248 + (M2 246 3)) 1 ((up2 (up2 M2 246 3 ((M2 246 3) + 1)) (248 + (M2 246 3)) 0 (M2 246 4)) 246 5)) 246 4)) ((up2 (up2 (up2 M2 246 3 ((M2 246 3) + 1)) (248 + (M2 246 3)) 0 (M2 246 4)) (248 + (M2 246 3)) 1 ((up2 (up2 M2 246 3 ((M2 246 3) + 1)) (248 + (M2 246 3)) 0 (M2 246 4)) 246 5)) 246 6))) (248 + (M2 246 3)) 3 l1) 246 4) * 6) + ((up2 (up2 (up2 (up2 (up2 M2 246 3 ((M2 246 3) + 1)) (248 + (M2 246 3)) 0 (M2 246 4)) (248 + (M2 246 3)) 1 ((up2 (up2 M2 246 3 ((M2 246 3) + 1)) (248 + (M2 246 3)) 0 (M2 246 4)) 246 5)) (248 + (M2 246 3)) 2 ((up2 (up2 (up2 M2 246 3 ((M2 246 3) + 1)) (248 + (M2 246 3)) 0 (M2 246 4)) (248 + (M2 246 3)) 1 ((up2 (up2 M2 246 3 ((M2 246 3) + 1)) (248 + (M2 246 3)) 0 (M2 246 4)) 246 5)) (6 + ((up2 (up2 (up2 M2 246 3 ((M2 246 3) + 1)) (248 + (M2 246 3)) 0 (M2 246 4)) (248 + (M2 246 3)) 1 ((up2 (up2 M2 246 3 ((M2 246 3) + 1)) (248 + (M2 246 3)) 0 (M2 246 4)) 246 5)) 246 4)) ((up2 (up2 (up2 M2 246 3 ((M2 246 3) + 1)) (248 + (M2 246 3)) 0 (M2 246 4)) (248 + (M2 246 3)) 1 ((up2 (up2 M2 246 3 ((M2 246 3) + 1)) (248 + (M2 246 3)) 0 (M2 246 4)) 246 5)) 246 6))) (248 + (M2 246 3)) 3 l1) 246 5))) ((up2 (up2 (up2 (up2 (up2 M2 246 3 ((M2 246 3) + 1)) (248 + (M2 246 3)) 0 (M2 246 4)) (248 + (M2 246 3)) 1 ((up2 (up2 M2 246 3 ((M2 246 3) + 1)) (248 + (M2 246 3)) 0 (M2 246 4)) 246 5)) (248 + (M2 246 3)) 2 ((up2 (up2 (up2 M2 246 3 ((M2 246 3) + 1)) (248 + (M2 246 3)) 0 (M2 246 4)) (248 + (M2 246 3)) 1 ((up2 (up2 M2 246 3 ((M2 246 3) + 1)) (248 + (M2 246 3)) 0 (M2 246 4)) 246 5)) (6 + ((up2 (up2 (up2 M2 246 3 ((M2 246 3) + 1)) (248 + (M2 246 3)) 0 (M2 246 4)) (248 + (M2 246 3)) 1 ((up2 (up2 M2 246 3 ((M2 246 3) + 1)) (248 + (M2 246 3)) 0 (M2 246 4)) 246 5)) 246 4)) ((up2 (up2 (up2 M2 246 3 ((M2 246 3) + 1)) (248 + (M2 246 3)) 0 (M2 246 4)) (248 + (M2 246 3)) 1 ((up2 (up2 M2 246 3 ((M2 246 3) + 1)) (248 + (M2 246 3)) 0 (M2 246 4)) 246 5)) 246 6))) (248 + (M2 246 3)) 3 l1) 246 6))) (15 + ((((up2 (up2 (up2 (up2 (up2 (up2 M2 246 3 ((M2 246 3) + 1)) (248 + (M2 246 3)) 0 (M2 246 4)) (248 + (M2 246 3)) 1 ((up2 (up2 M2 246 3 ((M2 246 3) + 1)) (248 + (M2 246 3)) 0 (M2 246 4)) 246 5)) (248 + (M2 246 3)) 2 ((up2 (up2 (up2 M2 246 3 ((M2 246 3) + 1)) (248 + (M2 246 3)) 0 (M2 246 4)) (248 + (M2 246 3)) 1 ((up2 (up2 M2 246 3 ((M2 246 3) + 1)) (248 + (M2 246 3)) 0 (M2 246 4)) 246 5)) (6 + ((up2 (up2 (up2 M2 246 3 ((M2 246 3) + 1)) (248 + (M2 246 3)) 0 (M2 246 4)) (248 + (M2 246 3)) 1 ((up2 (up2 M2 246 3 ((M2 246 3) + 1)) (248 + (M2 246 3)) 0 (M2 246 4)) 246 5)) 246 4)) ((up2 (up2 (up2 M2 246 3 ((M2 246 3) + 1)) (248 + (M2 246 3)) 0 (M2 246 4)) (248 + (M2 246 3)) 1 ((up2 (up2 M2 246 3 ((M2 246 3) + 1)) (248 + (M2 246 3)) 0 (M2 246 4)) 246 5)) 246 6))) (248 + (M2 246 3)) 3 l1) (248 + (M2 246 3)) 4 ((up2 (up2 (up2 (up2 (up2 M2 246 3 ((M2 246 3) + 1)) (248 + (M2 246 3)) 0 (M2 246 4)) (248 + (M2 246 3)) 1 ((up2 (up2 M2 246 3 ((M2 246 3) + 1)) (248 + (M2 246 3)) 0 (M2 246 4)) 246 5)) (248 + (M2 246 3)) 2 ((up2 (up2 (up2 M2 246 3 ((M2 246 3) + 1)) (248 + (M2 246 3)) 0 (M2 246 4)) (248 + (M2 246 3)) 1 ((up2 (up2 M2 246 3 ((M2 246 3) + 1)) (248 + (M2 246 3)) 0 (M2 246 4)) 246 5)) (6 + ((up2 (up2 (up2 M2 246 3 ((M2 246 3) + 1)) (248 + (M2 246 3)) 0 (M2 246 4)) (248 + (M2 246 3)) 1 ((up2 (up2 M2 246 3 ((M2 246 3) + 1)) (248 + (M2 246 3)) 0 (M2 246 4)) 246 5)) 246 4)) ((up2 (up2 (up2 M2 246 3 ((M2 246 3) + 1)) (248 + (M2 246 3)) 0 (M2 246 4)) (248 + (M2 246 3)) 1 ((up2 (up2 M2 246 3 ((M2 246 3) + 1)) (248 + (M2 246 3)) 0 (M2 246 4)) 246 5)) 246 6))) (248 + (M2 246 3)) 3 l1) (15 + ((((up2 (up2 (up2 (up2 (up2 M2 246 3 ((M2 246 3) + 1)) (248 + (M2 246 3)) 0 (M2 246 4)) (248 + (M2 246 3)) 1 ((up2 (up2 M2 246 3 ((M2 246 3) + 1)) (248 + (M2 246 3)) 0 (M2 246 4)) 246 5)) (248 + (M2 246 3)) 2 ((up2 (up2 (up2 M2 246 3 ((M2 246 3) + 1)) (248 + (M2 246 3)) 0 (M2 246 4)) (248 + (M2 246 3)) 1 ((up2 (up2 M2 246 3 ((M2 246 3) + 1)) (248 + (M2 246 3)) 0 (M2 246 4)) 246 5)) (6 + ((up2 (up2 (up2 M2 246 3 ((M2 246 3) + 1)) (248 + (M2 246 3)) 0 (M2 246 4)) (248 + (M2 246 3)) 1 ((up2 (up2 M2 246 3 ((M2 246 3) + 1)) (248 + (M2 246 3)) 0 (M2 246 4)) 246 5)) 246 4)) ((up2 (up2 (up2 M2 246 3 ((M2 246 3) + 1)) (248 + (M2 246 3)) 0 (M2 246 4)) (248 + (M2 246 3)) 1 ((up2 (up2 M2 246 3 ((M2 246 3) + 1)) (248 + (M2 246 3)) 0 (M2 246 4)) 246 5)) 246 6))) (248 + (M2 246 3)) 3 l1) 246 4) * 6) + ((up2 (up2 (up2 (up2 (up2 M2 246 3 ((M2 246 3) + 1)) (248 + (M2 246 3)) 0 (M2 246 4)) (248 + (M2 246 3)) 1 ((up2 (up2 M2 246 3 ((M2 246 3) + 1)) (248 + (M2 246 3)) 0 (M2 246 4)) 246 5)) (248 + (M2 246 3)) 2 ((up2 (up2 (up2 M2 246 3 ((M2 246 3) + 1)) (248 + (M2 246 3)) 0 (M2 246 4)) (248 + (M2 246 3)) 1 ((up2 (up2 M2 246 3 ((M2 246 3) + 1)) (248 + (M2 246 3)) 0 (M2 246 4)) 246 5)) (6 + ((up2 (up2 (up2 M2 246 3 ((M2 246 3) + 1)) (248 + (M2 246 3)) 0 (M2 246 4)) (248 + (M2 246 3)) 1 ((up2 (up2 M2 246 3 ((M2 246 3) + 1)) (248 + (M2 246 3)) 0 (M2 246 4)) 246 5)) 246 4)) ((up2 (up2 (up2 M2 246 3 ((M2 246 3) + 1)) (248 + (M2 246 3)) 0 (M2 246 4)) (248 + (M2 246 3)) 1 ((up2 (up2 M2 246 3 ((M2 246 3) + 1)) (248 + (M2 246 3)) 0 (M2 246 4)) 246 5)) 246 6))) (248 + (M2 246 3)) 3 l1) 246 5))) ((up2 (up2 (up2 (up2 (up2 M2 246 3 ((M2 246 3) + 1)) (248 + (M2 246 3)) 0 (M2 246 4)) (248 + (M2 246 3)) 1 ((up2 (up2 M2 246 3 ((M2 246 3) + 1)) (248 + (M2 246 3)) 0 (M2 246 4)) 246 5)) (248 + (M2 246 3)) 2 ((up2 (up2 (up2 M2 246 3 ((M2 246 3) + 1)) (248 + (M2 246 3)) 0 (M2 246 4)) (248 + (M2 246 3)) 1 ((up2 (up2 M2 246 3 ((M2 246 3) + 1)) (248 + (M2 246 3)) 0 (M2 246 4)) 246 5)) (6 + ((up2 (up2 (up2 M2 246 3 ((M2 246 3) + 1)) (248 + (M2 246 3)) 0 (M2 246 4)) (248 + (M2 246 3)) 1 ((up2 (up2 M2 246 3 ((M2 246 3) + 1)) (248 + (M2 246 3)) 0 (M2 246 4)) 246 5)) 246 4)) ((up2 (up2 (up2 M2 246 3 ((M2 246 3) + 1)) (248 + (M2 246 3)) 0 (M2 246 4)) (248 + (M2 246 3)) 1 ((up2 (up2 M2 246 3 ((M2 246 3) + 1)) (248 + (M2 246 3)) 0 (M2 246 4)) 246 5)) 246 6))) (248 + (M2 246 3)) 3 l1) 246 6))) 246 4) * 6) + ((up2 (up2 (up2 (up2 (up2 (up2 M2 246 3 ((M2 246 3) + 1)) (248 + (M2 246 3)) 0 (M2 246 4)) (248 + (M2 246 3)) 1 ((up2 (up2 M2 246 3 ((M2 246 3) + 1)) (248 + (M2 246 3)) 0 (M2 246 4)) 246 5)) (248 + (M2 246 3)) 2 ((up2 (up2 (up2 M2 246 3 ((M2 246 3) + 1)) (248 + (M2 246 3)) 0 (M2 246 4)) (248 + (M2 246 3)) 1 ((up2 (up2 M2 246 3 ((M2 246 3) + 1)) (248 + (M2 246 3)) 0 (M2 246 4)) 246 5)) (6 + ((up2 (up2 (up2 M2 246 3 ((M2 246 3) + 1)) (248 + (M2 246 3)) 0 (M2 246 4)) (248 + (M2 246 3)) 1 ((up2 (up2 M2 246 3 ((M2 246 3) + 1)) (248 + (M2 246 3)) 0 (M2 246 4)) 246 5)) 246 4)) ((up2 (up2 (up2 M2 246 3 ((M2 246 3) + 1)) (248 + (M2 246 3)) 0 (M2 246 4)) (248 + (M2 246 3)) 1 ((up2 (up2 M2 246 3 ((M2 246 3) + 1)) (248 + (M2 246 3)) 0 (M2 246 4)) 246 5)) 246 6))) (248 + (M2 246 3)) 3 l1) (248 + (M2 246 3)) 4 ((up2 (up2 (up2 (up2 (up2 M2 246 3 ((M2 246 3) + 1)) (248 + (M2 246 3)) 0 (M2 246 4)) (248 + (M2 246 3)) 1 ((up2 (up2 M2 246 3 ((M2 246 3) + 1)) (248 + (M2 246 3)) 0 (M2 246 4)) 246 5)) (248 + (M2 246 3)) 2 ((up2 (up2 (up2 M2 246 3 ((M2 246 3) + 1)) (248 + (M2 246 3)) 0 (M2 246 4)) (248 + (M2 246 3)) 1 ((up2 (up2 M2 246 3 ((M2 246 3) + 1)) (248 + (M2 246 3)) 0 (M2 246 4)) 246 5)) (6 + ((up2 (up2 (up2 M2 246 3 ((M2 246 3) + 1)) (248 + (M2 246 3)) 0 (M2 246 4)) (248 + (M2 246 3)) 1 ((up2 (up2 M2 246 3 ((M2 246 3) + 1)) (248 + (M2 246 3)) 0 (M2 246 4)) 246 5)) 246 4)) ((up2 (up2 (up2 M2 246 3 ((M2 246 3) + 1)) (248 + (M2 246 3)) 0 (M2 246 4)) (248 + (M2 246 3)) 1 ((up2 (up2 M2 246 3 ((M2 246 3) + 1)) (248 + (M2 246 3)) 0 (M2 246 4)) 246 5)) 246 6))) (248 + (M2 246 3)) 3 l1) (15 + ((((up2 (up2 (up2 (up2 (up2 M2 246 3 ((M2 246 3) + 1)) (248 + (M2 246 3)) 0 (M2 246 4)) (248 + (M2 246 3)) 1 ((up2 (up2 M2 246 3 ((M2 246 3) + 1)) (248 + (M2 246 3)) 0 (M2 246 4)) 246 5)) (248 + (M2 246 3)) 2 ((up2 (up2 (up2 M2 246 3 ((M2 246 3) + 1)) (248 + (M2 246 3)) 0 (M2 246 4)) (248 + (M2 246 3)) 1 ((up2 (up2 M2 246 3 ((M2 246 3) + 1)) (248 + (M2 246 3)) 0 (M2 246 4)) 246 5)) (6 + ((up2 (up2 (up2 M2 246 3 ((M2 246 3) + 1)) (248 + (M2 246 3)) 0 (M2 246 4)) (248 + (M2 246 3)) 1 ((up2 (up2 M2 246 3 ((M2 246 3) + 1)) (248 + (M2 246 3)) 0 (M2 246 4)) 246 5)) 246 4)) ((up2 (up2 (up2 M2 246 3 ((M2 246 3) + 1)) (248 + (M2 246 3)) 0 (M2 246 4)) (248 + (M2 246 3)) 1 ((up2 (up2 M2 246 3 ((M2 246 3) + 1)) (248 + (M2 246 3)) 0 (M2 246 4)) 246 5)) 246 6))) (248 + (M2 246 3)) 3 l1) 246 4) * 6) + ((up2 (up2 (up2 (up2 (up2 M2 246 3 ((M2 246 3) + 1)) (248 + (M2 246 3)) 0 (M2 246 4)) (248 + (M2 246 3)) 1 ((up2 (up2 M2 246 3 ((M2 246 3) + 1)) (248 + (M2 246 3)) 0 (M2 246 4)) 246 5)) (248 + (M2 246 3)) 2 ((up2 (up2 (up2 M2 246 3 ((M2 246 3) + 1)) (248 + (M2 246 3)) 0 (M2 246 4)) (248 + (M2 246 3)) 1 ((up2 (up2 M2 246 3 ((M2 246 3) + 1)) (248 + (M2 246 3)) 0 (M2 246 4)) 246 5)) (6 + ((up2 (up2 (up2 M2 246 3 ((M2 246 3) + 1)) (248 + (M2 246 3)) 0 (M2 246 4)) (248 + (M2 246 3)) 1 ((up2 (up2 M2 246 3 ((M2 246 3) + 1)) (248 + (M2 246 3)) 0 (M2 246 4)) 246 5)) 246 4)) ((up2 (up2 (up2 M2 246 3 ((M2 246 3) + 1)) (248 + (M2 246 3)) 0 (M2 246 4)) (248 + (M2 246 3)) 1 ((up2 (up2 M2 246 3 ((M2 246 3) + 1)) (248 + (M2 246 3)) 0 (M2 246 4)) 246 5)) 246 6))) (248 + (M2 246 3)) 3 l1) 246 5))) ((up2 (up2 (up2 (up2 (up2 M2 246 3 ((M2 246 3) + 1)) (248 + (M2 246 3)) 0 (M2 246 4)) (248 + (M2 246 3)) 1 ((up2 (up2 M2 246 3 ((M2 246 3) + 1)) (248 + (M2 246 3)) 0 (M2 246 4)) 246 5)) (248 + (M2 246 3)) 2 ((up2 (up2 (up2 M2 246 3 ((M2 246 3) + 1)) (248 + (M2 246 3)) 0 (M2 246 4)) (248 + (M2 246 3)) 1 ((up2 (up2 M2 246 3 ((M2 246 3) + 1)) (248 + (M2 246 3)) 0 (M2 246 4)) 246 5)) (6 + ((up2 (up2 (up2 M2 246 3 ((M2 246 3) + 1)) (248 + (M2 246 3)) 0 (M2 246 4)) (248 + (M2 246 3)) 1 ((up2 (up2 M2 246 3 ((M2 246 3) + 1)) (248 + (M2 246 3)) 0 (M2 246 4)) 246 5)) 246 4)) ((up2 (up2 (up2 M2 246 3 ((M2 246 3) + 1)) (248 + (M2 246 3)) 0 (M2 246 4)) (248 + (M2 246 3)) 1 ((up2 (up2 M2 246 3 ((M2 246 3) + 1)) (248 + (M2 246 3)) 0 (M2 246 4)) 246 5)) 246 6))) (248 + (M2 246 3)) 3 l1) 246 6))) 246 5))) r1)) 2 ((up2 (up2 (up2 (up2 (up2 (up2 (up2 M2 246 3 ((M2 246 3) + 1)) (248 + (M2 246 3)) 0 (M2 246 4)) (248 + (M2 246 3)) 1 ((up2 (up2 M2 246 3 ((M2 246 3) + 1)) (248 + (M2 246 3)) 0 (M2 246 4)) 246 5)) (248 + (M2 246 3)) 2 ((up2 (up2 (up2 M2 246 3 ((M2 246 3) + 1)) (248 + (M2 246 3)) 0 (M2 246 4)) (248 + (M2 246 3)) 1 ((up2 (up2 M2 246 3 ((M2 246 3) + 1)) (248 + (M2 246 3)) 0 (M2 246 4)) 246 5)) (6 + ((up2 (up2 (up2 M2 246 3 ((M2 246 3) + 1)) (248 + (M2 246 3)) 0 (M2 246 4)) (248 + (M2 246 3)) 1 ((up2 (up2 M2 246 3 ((M2 246 3) + 1)) (248 + (M2 246 3)) 0 (M2 246 4)) 246 5)) 246 4)) ((up2 (up2 (up2 M2 246 3 ((M2 246 3) + 1)) (248 + (M2 246 3)) 0 (M2 246 4)) (248 + (M2 246 3)) 1 ((up2 (up2 M2 246 3 ((M2 246 3) + 1)) (248 + (M2 246 3)) 0 (M2 246 4)) 246 5)) 246 6))) (248 + (M2 246 3)) 3 l1) (248 + (M2 246 3)) 4 ((up2 (up2 (up2 (up2 (up2 M2 246 3 ((M2 246 3) + 1)) (248 + (M2 246 3)) 0 (M2 246 4)) (248 + (M2 246 3)) 1 ((up2 (up2 M2 246 3 ((M2 246 3) + 1)) (248 + (M2 246 3)) 0 (M2 246 4)) 246 5)) (248 + (M2 246 3)) 2 ((up2 (up2 (up2 M2 246 3 ((M2 246 3) + 1)) (248 + (M2 246 3)) 0 (M2 246 4)) (248 + (M2 246 3)) 1 ((up2 (up2 M2 246 3 ((M2 246 3) + 1)) (248 + (M2 246 3)) 0 (M2 246 4)) 246 5)) (6 + ((up2 (up2 (up2 M2 246 3 ((M2 246 3) + 1)) (248 + (M2 246 3)) 0 (M2 246 4)) (248 + (M2 246 3)) 1 ((up2 (up2 M2 246 3 ((M2 246 3) + 1)) (248 + (M2 246 3)) 0 (M2 246 4)) 246 5)) 246 4)) ((up2 (up2 (up2 M2 246 3 ((M2 246 3) + 1)) (248 + (M2 246 3)) 0 (M2 246 4)) (248 + (M2 246 3)) 1 ((up2 (up2 M2 246 3 ((M2 246 3) + 1)) (248 + (M2 246 3)) 0 (M2 246 4)) 246 5)) 246 6))) (248 + (M2 246 3)) 3 l1) (15 + ((((up2 (up2 (up2 (up2 (up2 M2 246 3 ((M2 246 3) + 1)) (248 + (M2 246 3)) 0 (M2 246 4)) (248 + (M2 246 3)) 1 ((up2 (up2 M2 246 3 ((M2 246 3) + 1)) (248 + (M2 246 3)) 0 (M2 246 4)) 246 5)) (248 + (M2 246 3)) 2 ((up2 (up2 (up2 M2 246 3 ((M2 246 3) + 1)) (248 + (M2 246 3)) 0 (M2 246 4)) (248 + (M2 246 3)) 1 ((up2 (up2 M2 246 3 ((M2 246 3) + 1)) (248 + (M2 246 3)) 0 (M2 246 4)) 246 5)) (6 + ((up2 (up2 (up2 M2 246 3 ((M2 246 3) + 1)) (248 + (M2 246 3)) 0 (M2 246 4)) (248 + (M2 246 3)) 1 ((up2 (up2 M2 246 3 ((M2 246 3) + 1)) (248 + (M2 246 3)) 0 (M2 246 4)) 246 5)) 246 4)) ((up2 (up2 (up2 M2 246 3 ((M2 246 3) + 1)) (248 + (M2 246 3)) 0 (M2 246 4)) (248 + (M2 246 3)) 1 ((up2 (up2 M2 246 3 ((M2 246 3) + 1)) (248 + (M2 246 3)) 0 (M2 246 4)) 246 5)) 246 6))) (248 + (M2 246 3)) 3 l1) 246 4) * 6) + ((up2 (up2 (up2 (up2 (up2 M2 246 3 ((M2 246 3) + 1)) (248 + (M2 246 3)) 0 (M2 246 4)) (248 + (M2 246 3)) 1 ((up2 (up2 M2 246 3 ((M2 246 3) + 1)) (248 + (M2 246 3)) 0 (M2 246 4)) 246 5)) (248 + (M2 246 3)) 2 ((up2 (up2 (up2 M2 246 3 ((M2 246 3) + 1)) (248 + (M2 246 3)) 0 (M2 246 4)) (248 + (M2 246 3)) 1 ((up2 (up2 M2 246 3 ((M2 246 3) + 1)) (248 + (M2 246 3)) 0 (M2 246 4)) 246 5)) (6 + ((up2 (up2 (up2 M2 246 3 ((M2 246 3) + 1)) (248 + (M2 246 3)) 0 (M2 246 4)) (248 + (M2 246 3)) 1 ((up2 (up2 M2 246 3 ((M2 246 3) + 1)) (248 + (M2 246 3)) 0 (M2 246 4)) 246 5)) 246 4)) ((up2 (up2 (up2 M2 246 3 ((M2 246 3) + 1)) (248 + (M2 246 3)) 0 (M2 246 4)) (248 + (M2 246 3)) 1 ((up2 (up2 M2 246 3 ((M2 246 3) + 1)) (248 + (M2 246 3)) 0 (M2 246 4)) 246 5)) 246 6))) (248 + (M2 246 3)) 3 l1) 246 5))) ((up2 (up2 (up2 (up2 (up2 M2 246 3 ((M2 246 3) + 1)) (248 + (M2 246 3)) 0 (M2 246 4)) (248 + (M2 246 3)) 1 ((up2 (up2 M2 246 3 ((M2 246 3) + 1)) (248 + (M2 246 3)) 0 (M2 246 4)) 246 5)) (248 + (M2 246 3)) 2 ((up2 (up2 (up2 M2 246 3 ((M2 246 3) + 1)) (248 + (M2 246 3)) 0 (M2 246 4)) (248 + (M2 246 3)) 1 ((up2 (up2 M2 246 3 ((M2 246 3) + 1)) (248 + (M2 246 3)) 0 (M2 246 4)) 246 5)) (6 + ((up2 (up2 (up2 M2 246 3 ((M2 246 3) + 1)) (248 + (M2 246 3)) 0 (M2 246 4)) (248 + (M2 246 3)) 1 ((up2 (up2 M2 246 3 ((M2 246 3) + 1)) (248 + (M2 246 3)) 0 (M2 246 4)) 246 5)) 246 4)) ((up2 (up2 (up2 M2 246 3 ((M2 246 3) + 1)) (248 + (M2 246 3)) 0 (M2 246 4)) (248 + (M2 246 3)) 1 ((up2 (up2 M2 246 3 ((M2 246 3) + 1)) (248 + (M2 246 3)) 0 (M2 246 4)) 246 5)) 246 6))) (248 + (M2 246 3)) 3 l1) 246 6))) (248 + (M2 246 3)) 5 ((up2 (up2 (up2 (up2 (up2 (up2 M2 246 3 ((M2 246 3) + 1)) (248 + (M2 246 3)) 0 (M2 246 4)) (248 + (M2 246 3)) 1 ((up2 (up2 M2 246 3 ((M2 246 3) + 1)) (248 + (M2 246 3)) 0 (M2 246 4)) 246 5)) (248 + (M2 246 3)) 2 ((up2 (up2 (up2 M2 246 3 ((M2 246 3) + 1)) (248 + (M2 246 3)) 0 (M2 246 4)) (248 + (M2 246 3)) 1 ((up2 (up2 M2 246 3 ((M2 246 3) + 1)) (248 + (M2 246 3)) 0 (M2 246 4)) 246 5)) (6 + ((up2 (up2 (up2 M2 246 3 ((M2 246 3) + 1)) (248 + (M2 246 3)) 0 (M2 246 4)) (248 + (M2 246 3)) 1 ((up2 (up2 M2 246 3 ((M2 246 3) + 1)) (248 + (M2 246 3)) 0 (M2 246 4)) 246 5)) 246 4)) ((up2 (up2 (up2 M2 246 3 ((M2 246 3) + 1)) (248 + (M2 246 3)) 0 (M2 246 4)) (248 + (M2 246 3)) 1 ((up2 (up2 M2 246 3 ((M2 246 3) + 1)) (248 + (M2 246 3)) 0 (M2 246 4)) 246 5)) 246 6))) (248 + (M2 246 3)) 3 l1) (248 + (M2 246 3)) 4 ((up2 (up2 (up2 (up2 (up2 M2 246 3 ((M2 246 3) + 1)) (248 + (M2 246 3)) 0 (M2 246 4)) (248 + (M2 246 3)) 1 ((up2 (up2 M2 246 3 ((M2 246 3) + 1)) (248 + (M2 246 3)) 0 (M2 246 4)) 246 5)) (248 + (M2 246 3)) 2 ((up2 (up2 (up2 M2 246 3 ((M2 246 3) + 1)) (248 + (M2 246 3)) 0 (M2 246 4)) (248 + (M2 246 3)) 1 ((up2 (up2 M2 246 3 ((M2 246 3) + 1)) (248 + (M2 246 3)) 0 (M2 246 4)) 246 5)) (6 + ((up2 (up2 (up2 M2 246 3 ((M2 246 3) + 1)) (248 + (M2 246 3)) 0 (M2 246 4)) (248 + (M2 246 3)) 1 ((up2 (up2 M2 246 3 ((M2 246 3) + 1)) (248 + (M2 246 3)) 0 (M2 246 4)) 246 5)) 246 4)) ((up2 (up2 (up2 M2 246 3 ((M2 246 3) + 1)) (248 + (M2 246 3)) 0 (M2 246 4)) (248 + (M2 246 3)) 1 ((up2 (up2 M2 246 3 ((M2 246 3) + 1)) (248 + (M2 246 3)) 0 (M2 246 4)) 246 5)) 246 6))) (248 + (M2 246 3)) 3 l1) (15 + ((((up2 (up2 (up2 (up2 (up2 M2 246 3 ((M2 246 3) + 1)) (248 + (M2 246 3)) 0 (M2 246 4)) (248 + (M2 246 3)) 1 ((up2 (up2 M2 246 3 ((M2 246 3) + 1)) (248 + (M2 246 3)) 0 (M2 246 4)) 246 5)) (248 + (M2 246 3)) 2 ((up2 (up2 (up2 M2 246 3 ((M2 246 3) + 1)) (248 + (M2 246 3)) 0 (M2 246 4)) (248 + (M2 246 3)) 1 ((up2 (up2 M2 246 3 ((M2 246 3) + 1)) (248 + (M2 246 3)) 0 (M2 246 4)) 246 5)) (6 + ((up2 (up2 (up2 M2 246 3 ((M2 246 3) + 1)) (248 + (M2 246 3)) 0 (M2 246 4)) (248 + (M2 246 3)) 1 ((up2 (up2 M2 246 3 ((M2 246 3) + 1)) (248 + (M2 246 3)) 0 (M2 246 4)) 246 5)) 246 4)) ((up2 (up2 (up2 M2 246 3 ((M2 246 3) + 1)) (248 + (M2 246 3)) 0 (M2 246 4)) (248 + (M2 246 3)) 1 ((up2 (up2 M2 246 3 ((M2 246 3) + 1)) (248 + (M2 246 3)) 0 (M2 246 4)) 246 5)) 246 6))) (248 + (M2 246 3)) 3 l1) 246 4) * 6) + ((up2 (up2 (up2 (up2 (up2 M2 246 3 ((M2 246 3) + 1)) (248 + (M2 246 3)) 0 (M2 246 4)) (248 + (M2 246 3)) 1 ((up2 (up2 M2 246 3 ((M2 246 3) + 1)) (248 + (M2 246 3)) 0 (M2 246 4)) 246 5)) (248 + (M2 246 3)) 2 ((up2 (up2 (up2 M2 246 3 ((M2 246 3) + 1)) (248 + (M2 246 3)) 0 (M2 246 4)) (248 + (M2 246 3)) 1 ((up2 (up2 M2 246 3 ((M2 246 3) + 1)) (248 + (M2 246 3)) 0 (M2 246 4)) 246 5)) (6 + ((up2 (up2 (up2 M2 246 3 ((M2 246 3) + 1)) (248 + (M2 246 3)) 0 (M2 246 4)) (248 + (M2 246 3)) 1 ((up2 (up2 M2 246 3 ((M2 246 3) + 1)) (248 + (M2 246 3)) 0 (M2 246 4)) 246 5)) 246 4)) ((up2 (up2 (up2 M2 246 3 ((M2 246 3) + 1)) (248 + (M2 246 3)) 0 (M2 246 4)) (248 + (M2 246 3)) 1 ((up2 (up2 M2 246 3 ((M2 246 3) + 1)) (248 + (M2 246 3)) 0 (M2 246 4)) 246 5)) 246 6))) (248 + (M2 246 3)) 3 l1) 246 5))) ((up2 (up2 (up2 (up2 (up2 M2 246 3 ((M2 246 3) + 1)) (248 + (M2 246 3)) 0 (M2 246 4)) (248 + (M2 246 3)) 1 ((up2 (up2 M2 246 3 ((M2 246 3) + 1)) (248 + (M2 246 3)) 0 (M2 246 4)) 246 5)) (248 + (M2 246 3)) 2 ((up2 (up2 (up2 M2 246 3 ((M2 246 3) + 1)) (248 + (M2 246 3)) 0 (M2 246 4)) (248 + (M2 246 3)) 1 ((up2 (up2 M2 246 3 ((M2 246 3) + 1)) (248 + (M2 246 3)) 0 (M2 246 4)) 246 5)) (6 + ((up2 (up2 (up2 M2 246 3 ((M2 246 3) + 1)) (248 + (M2 246 3)) 0 (M2 246 4)) (248 + (M2 246 3)) 1 ((up2 (up2 M2 246 3 ((M2 246 3) + 1)) (248 + (M2 246 3)) 0 (M2 246 4)) 246 5)) 246 4)) ((up2 (up2 (up2 M2 246 3 ((M2 246 3) + 1)) (248 + (M2 246 3)) 0 (M2 246 4)) (248 + (M2 246 3)) 1 ((up2 (up2 M2 246 3 ((M2 246 3) + 1)) (248 + (M2 246 3)) 0 (M2 246 4)) 246 5)) 246 6))) (248 + (M2 246 3)) 3 l1) 246 6))) (15 + ((((up2 (up2 (up2 (up2 (up2 (up2 M2 246 3 ((M2 246 3) + 1)) (248 + (M2 246 3)) 0 (M2 246 4)) (248 + (M2 246 3)) 1 ((up2 (up2 M2 246 3 ((M2 246 3) + 1)) (248 + (M2 246 3)) 0 (M2 246 4)) 246 5)) (248 + (M2 246 3)) 2 ((up2 (up2 (up2 M2 246 3 ((M2 246 3) + 1)) (248 + (M2 246 3)) 0 (M2 246 4)) (248 + (M2 246 3)) 1 ((up2 (up2 M2 246 3 ((M2 246 3) + 1)) (248 + (M2 246 3)) 0 (M2 246 4)) 246 5)) (6 + ((up2 (up2 (up2 M2 246 3 ((M2 246 3) + 1)) (248 + (M2 246 3)) 0 (M2 246 4)) (248 + (M2 246 3)) 1 ((up2 (up2 M2 246 3 ((M2 246 3) + 1)) (248 + (M2 246 3)) 0 (M2 246 4)) 246 5)) 246 4)) ((up2 (up2 (up2 M2 246 3 ((M2 246 3) + 1)) (248 + (M2 246 3)) 0 (M2 246 4)) (248 + (M2 246 3)) 1 ((up2 (up2 M2 246 3 ((M2 246 3) + 1)) (248 + (M2 246 3)) 0 (M2 246 4)) 246 5)) 246 6))) (248 + (M2 246 3)) 3 l1) (248 + (M2 246 3)) 4 ((up2 (up2 (up2 (up2 (up2 M2 246 3 ((M2 246 3) + 1)) (248 + (M2 246 3)) 0 (M2 246 4)) (248 + (M2 246 3)) 1 ((up2 (up2 M2 246 3 ((M2 246 3) + 1)) (248 + (M2 246 3)) 0 (M2 246 4)) 246 5)) (248 + (M2 246 3)) 2 ((up2 (up2 (up2 M2 246 3 ((M2 246 3) + 1)) (248 + (M2 246 3)) 0 (M2 246 4)) (248 + (M2 246 3)) 1 ((up2 (up2 M2 246 3 ((M2 246 3) + 1)) (248 + (M2 246 3)) 0 (M2 246 4)) 246 5)) (6 + ((up2 (up2 (up2 M2 246 3 ((M2 246 3) + 1)) (248 + (M2 246 3)) 0 (M2 246 4)) (248 + (M2 246 3)) 1 ((up2 (up2 M2 246 3 ((M2 246 3) + 1)) (248 + (M2 246 3)) 0 (M2 246 4)) 246 5)) 246 4)) ((up2 (up2 (up2 M2 246 3 ((M2 246 3) + 1)) (248 + (M2 246 3)) 0 (M2 246 4)) (248 + (M2 246 3)) 1 ((up2 (up2 M2 246 3 ((M2 246 3) + 1)) (248 + (M2 246 3)) 0 (M2 246 4)) 246 5)) 246 6))) (248 + (M2 246 3)) 3 l1) (15 + ((((up2 (up2 (up2 (up2 (up2 M2 246 3 ((M2 246 3) + 1)) (248 + (M2 246 3)) 0 (M2 246 4)) (248 + (M2 246 3)) 1 ((up2 (up2 M2 246 3 ((M2 246 3) + 1)) (248 + (M2 246 3)) 0 (M2 246 4)) 246 5)) (248 + (M2 246 3)) 2 ((up2 (up2 (up2 M2 246 3 ((M2 246 3) + 1)) (248 + (M2 246 3)) 0 (M2 246 4)) (248 + (M2 246 3)) 1 ((up2 (up2 M2 246 3 ((M2 246 3) + 1)) (248 + (M2 246 3)) 0 (M2 246 4)) 246 5)) (6 + ((up2 (up2 (up2 M2 246 3 ((M2 246 3) + 1)) (248 + (M2 246 3)) 0 (M2 246 4)) (248 + (M2 246 3)) 1 ((up2 (up2 M2 246 3 ((M2 246 3) + 1)) (248 + (M2 246 3)) 0 (M2 246 4)) 246 5)) 246 4)) ((up2 (up2 (up2 M2 246 3 ((M2 246 3) + 1)) (248 + (M2 246 3)) 0 (M2 246 4)) (248 + (M2 246 3)) 1 ((up2 (up2 M2 246 3 ((M2 246 3) + 1)) (248 + (M2 246 3)) 0 (M2 246 4)) 246 5)) 246 6))) (248 + (M2 246 3)) 3 l1) 246 4) * 6) + ((up2 (up2 (up2 (up2 (up2 M2 246 3 ((M2 246 3) + 1)) (248 + (M2 246 3)) 0 (M2 246 4)) (248 + (M2 246 3)) 1 ((up2 (up2 M2 246 3 ((M2 246 3) + 1)) (248 + (M2 246 3)) 0 (M2 246 4)) 246 5)) (248 + (M2 246 3)) 2 ((up2 (up2 (up2 M2 246 3 ((M2 246 3) + 1)) (248 + (M2 246 3)) 0 (M2 246 4)) (248 + (M2 246 3)) 1 ((up2 (up2 M2 246 3 ((M2 246 3) + 1)) (248 + (M2 246 3)) 0 (M2 246 4)) 246 5)) (6 + ((up2 (up2 (up2 M2 246 3 ((M2 246 3) + 1)) (248 + (M2 246 3)) 0 (M2 246 4)) (248 + (M2 246 3)) 1 ((up2 (up2 M2 246 3 ((M2 246 3) + 1)) (248 + (M2 246 3)) 0 (M2 246 4)) 246 5)) 246 4)) ((up2 (up2 (up2 M2 246 3 ((M2 246 3) + 1)) (248 + (M2 246 3)) 0 (M2 246 4)) (248 + (M2 246 3)) 1 ((up2 (up2 M2 246 3 ((M2 246 3) + 1)) (248 + (M2 246 3)) 0 (M2 246 4)) 246 5)) 246 6))) (248 + (M2 246 3)) 3 l1) 246 5))) ((up2 (up2 (up2 (up2 (up2 M2 246 3 ((M2 246 3) + 1)) (248 + (M2 246 3)) 0 (M2 246 4)) (248 + (M2 246 3)) 1 ((up2 (up2 M2 246 3 ((M2 246 3) + 1)) (248 + (M2 246 3)) 0 (M2 246 4)) 246 5)) (248 + (M2 246 3)) 2 ((up2 (up2 (up2 M2 246 3 ((M2 246 3) + 1)) (248 + (M2 246 3)) 0 (M2 246 4)) (248 + (M2 246 3)) 1 ((up2 (up2 M2 246 3 ((M2 246 3) + 1)) (248 + (M2 246 3)) 0 (M2 246 4)) 246 5)) (6 + ((up2 (up2 (up2 M2 246 3 ((M2 246 3) + 1)) (248 + (M2 246 3)) 0 (M2 246 4)) (248 + (M2 246 3)) 1 ((up2 (up2 M2 246 3 ((M2 246 3) + 1)) (248 + (M2 246 3)) 0 (M2 246 4)) 246 5)) 246 4)) ((up2 (up2 (up2 M2 246 3 ((M2 246 3) + 1)) (248 + (M2 246 3)) 0 (M2 246 4)) (248 + (M2 246 3)) 1 ((up2 (up2 M2 246 3 ((M2 246 3) + 1)) (248 + (M2 246 3)) 0 (M2 246 4)) 246 5)) 246 6))) (248 + (M2 246 3)) 3 l1) 246 6))) 246 4) * 6) + ((up2 (up2 (up2 (up2 (up2 (up2 M2 246 3 ((M2 246 3) + 1)) (248 + (M2 246 3)) 0 (M2 246 4)) (248 + (M2 246 3)) 1 ((up2 (up2 M2 246 3 ((M2 246 3) + 1)) (248 + (M2 246 3)) 0 (M2 246 4)) 246 5)) (248 + (M2 246 3)) 2 ((up2 (up2 (up2 M2 246 3 ((M2 246 3) + 1)) (248 + (M2 246 3)) 0 (M2 246 4)) (248 + (M2 246 3)) 1 ((up2 (up2 M2 246 3 ((M2 246 3) + 1)) (248 + (M2 246 3)) 0 (M2 246 4)) 246 5)) (6 + ((up2 (up2 (up2 M2 246 3 ((M2 246 3) + 1)) (248 + (M2 246 3)) 0 (M2 246 4)) (248 + (M2 246 3)) 1 ((up2 (up2 M2 246 3 ((M2 246 3) + 1)) (248 + (M2 246 3)) 0 (M2 246 4)) 246 5)) 246 4)) ((up2 (up2 (up2 M2 246 3 ((M2 246 3) + 1)) (248 + (M2 246 3)) 0 (M2 246 4)) (248 + (M2 246 3)) 1 ((up2 (up2 M2 246 3 ((M2 246 3) + 1)) (248 + (M2 246 3)) 0 (M2 246 4)) 246 5)) 246 6))) (248 + (M2 246 3)) 3 l1) (248 + (M2 246 3)) 4 ((up2 (up2 (up2 (up2 (up2 M2 246 3 ((M2 246 3) + 1)) (248 + (M2 246 3)) 0 (M2 246 4)) (248 + (M2 246 3)) 1 ((up2 (up2 M2 246 3 ((M2 246 3) + 1)) (248 + (M2 246 3)) 0 (M2 246 4)) 246 5)) (248 + (M2 246 3)) 2 ((up2 (up2 (up2 M2 246 3 ((M2 246 3) + 1)) (248 + (M2 246 3)) 0 (M2 246 4)) (248 + (M2 246 3)) 1 ((up2 (up2 M2 246 3 ((M2 246 3) + 1)) (248 + (M2 246 3)) 0 (M2 246 4)) 246 5)) (6 + ((up2 (up2 (up2 M2 246 3 ((M2 246 3) + 1)) (248 + (M2 246 3)) 0 (M2 246 4)) (248 + (M2 246 3)) 1 ((up2 (up2 M2 246 3 ((M2 246 3) + 1)) (248 + (M2 246 3)) 0 (M2 246 4)) 246 5)) 246 4)) ((up2 (up2 (up2 M2 246 3 ((M2 246 3) + 1)) (248 + (M2 246 3)) 0 (M2 246 4)) (248 + (M2 246 3)) 1 ((up2 (up2 M2 246 3 ((M2 246 3) + 1)) (248 + (M2 246 3)) 0 (M2 246 4)) 246 5)) 246 6))) (248 + (M2 246 3)) 3 l1) (15 + ((((up2 (up2 (up2 (up2 (up2 M2 246 3 ((M2 246 3) + 1)) (248 + (M2 246 3)) 0 (M2 246 4)) (248 + (M2 246 3)) 1 ((up2 (up2 M2 246 3 ((M2 246 3) + 1)) (248 + (M2 246 3)) 0 (M2 246 4)) 246 5)) (248 + (M2 246 3)) 2 ((up2 (up2 (up2 M2 246 3 ((M2 246 3) + 1)) (248 + (M2 246 3)) 0 (M2 246 4)) (248 + (M2 246 3)) 1 ((up2 (up2 M2 246 3 ((M2 246 3) + 1)) (248 + (M2 246 3)) 0 (M2 246 4)) 246 5)) (6 + ((up2 (up2 (up2 M2 246 3 ((M2 246 3) + 1)) (248 + (M2 246 3)) 0 (M2 246 4)) (248 + (M2 246 3)) 1 ((up2 (up2 M2 246 3 ((M2 246 3) + 1)) (248 + (M2 246 3)) 0 (M2 246 4)) 246 5)) 246 4)) ((up2 (up2 (up2 M2 246 3 ((M2 246 3) + 1)) (248 + (M2 246 3)) 0 (M2 246 4)) (248 + (M2 246 3)) 1 ((up2 (up2 M2 246 3 ((M2 246 3) + 1)) (248 + (M2 246 3)) 0 (M2 246 4)) 246 5)) 246 6))) (248 + (M2 246 3)) 3 l1) 246 4) * 6) + ((up2 (up2 (up2 (up2 (up2 M2 246 3 ((M2 246 3) + 1)) (248 + (M2 246 3)) 0 (M2 246 4)) (248 + (M2 246 3)) 1 ((up2 (up2 M2 246 3 ((M2 246 3) + 1)) (248 + (M2 246 3)) 0 (M2 246 4)) 246 5)) (248 + (M2 246 3)) 2 ((up2 (up2 (up2 M2 246 3 ((M2 246 3) + 1)) (248 + (M2 246 3)) 0 (M2 246 4)) (248 + (M2 246 3)) 1 ((up2 (up2 M2 246 3 ((M2 246 3) + 1)) (248 + (M2 246 3)) 0 (M2 246 4)) 246 5)) (6 + ((up2 (up2 (up2 M2 246 3 ((M2 246 3) + 1)) (248 + (M2 246 3)) 0 (M2 246 4)) (248 + (M2 246 3)) 1 ((up2 (up2 M2 246 3 ((M2 246 3) + 1)) (248 + (M2 246 3)) 0 (M2 246 4)) 246 5)) 246 4)) ((up2 (up2 (up2 M2 246 3 ((M2 246 3) + 1)) (248 + (M2 246 3)) 0 (M2 246 4)) (248 + (M2 246 3)) 1 ((up2 (up2 M2 246 3 ((M2 246 3) + 1)) (248 + (M2 246 3)) 0 (M2 246 4)) 246 5)) 246 6))) (248 + (M2 246 3)) 3 l1) 246 5))) ((up2 (up2 (up2 (up2 (up2 M2 246 3 ((M2 246 3) + 1)) (248 + (M2 246 3)) 0 (M2 246 4)) (248 + (M2 246 3)) 1 ((up2 (up2 M2 246 3 ((M2 246 3) + 1)) (248 + (M2 246 3)) 0 (M2 246 4)) 246 5)) (248 + (M2 246 3)) 2 ((up2 (up2 (up2 M2 246 3 ((M2 246 3) + 1)) (248 + (M2 246 3)) 0 (M2 246 4)) (248 + (M2 246 3)) 1 ((up2 (up2 M2 246 3 ((M2 246 3) + 1)) (248 + (M2 246 3)) 0 (M2 246 4)) 246 5)) (6 + ((up2 (up2 (up2 M2 246 3 ((M2 246 3) + 1)) (248 + (M2 246 3)) 0 (M2 246 4)) (248 + (M2 246 3)) 1 ((up2 (up2 M2 246 3 ((M2 246 3) + 1)) (248 + (M2 246 3)) 0 (M2 246 4)) 246 5)) 246 4)) ((up2 (up2 (up2 M2 246 3 ((M2 246 3) + 1)) (248 + (M2 246 3)) 0 (M2 246 4)) (248 + (M2 246 3)) 1 ((up2 (up2 M2 246 3 ((M2 246 3) + 1)) (248 + (M2 246 3)) 0 (M2 246 4)) 246 5)) 246 6))) (248 + (M2 246 3)) 3 l1) 246 6))) 246 5))) r1)) 246 4)), (0, r1 - ((up2 (up2 (up2 (up2 (up2 (up2 (up2 M2 246 3 ((M2 246 3) + 1)) (248 + (M2 246 3)) 0 (M2 246 4)) (248 + (M2 246 3)) 1 ((up2 (up2 M2 246 3 ((M2 246 3) + 1)) (248 + (M2 246 3)) 0 (M2 246 4)) 246 5)) (248 + (M2 246 3)) 2 ((up2 (up2 (up2 M2 246 3 ((M2 246 3) + 1)) (248 + (M2 246 3)) 0 (M2 246 4)) (248 + (M2 246 3)) 1 ((up2 (up2 M2 246 3 ((M2 246 3) + 1)) (248 + (M2 246 3)) 0 (M2 246 4)) 246 5)) (6 + ((up2 (up2 (up2 M2 246 3 ((M2 246 3) + 1)) (248 + (M2 246 3)) 0 (M2 246 4)) (248 + (M2 246 3)) 1 ((up2 (up2 M2 246 3 ((M2 246 3) + 1)) (248 + (M2 246 3)) 0 (M2 246 4)) 246 5)) 246 4)) ((up2 (up2 (up2 M2 246 3 ((M2 246 3) + 1)) (248 + (M2 246 3)) 0 (M2 246 4)) (248 + (M2 246 3)) 1 ((up2 (up2 M2 246 3 ((M2 246 3) + 1)) (248 + (M2 246 3)) 0 (M2 246 4)) 246 5)) 246 6))) (248 + (M2 246 3)) 3 l1) (248 + (M2 246 3)) 4 ((up2 (up2 (up2 (up2 (up2 M2 246 3 ((M2 246 3) + 1)) (248 + (M2 246 3)) 0 (M2 246 4)) (248 + (M2 246 3)) 1 ((up2 (up2 M2 246 3 ((M2 246 3) + 1)) (248 + (M2 246 3)) 0 (M2 246 4)) 246 5)) (248 + (M2 246 3)) 2 ((up2 (up2 (up2 M2 246 3 ((M2 246 3) + 1)) (248 + (M2 246 3)) 0 (M2 246 4)) (248 + (M2 246 3)) 1 ((up2 (up2 M2 246 3 ((M2 246 3) + 1)) (248 + (M2 246 3)) 0 (M2 246 4)) 246 5)) (6 + ((up2 (up2 (up2 M2 246 3 ((M2 246 3) + 1)) (248 + (M2 246 3)) 0 (M2 246 4)) (248 + (M2 246 3)) 1 ((up2 (up2 M2 246 3 ((M2 246 3) + 1)) (248 + (M2 246 3)) 0 (M2 246 4)) 246 5)) 246 4)) ((up2 (up2 (up2 M2 246 3 ((M2 246 3) + 1)) (248 + (M2 246 3)) 0 (M2 246 4)) (248 + (M2 246 3)) 1 ((up2 (up2 M2 246 3 ((M2 246 3) + 1)) (248 + (M2 246 3)) 0 (M2 246 4)) 246 5)) 246 6))) (248 + (M2 246 3)) 3 l1) (15 + ((((up2 (up2 (up2 (up2 (up2 M2 246 3 ((M2 246 3) + 1)) (248 + (M2 246 3)) 0 (M2 246 4)) (248 + (M2 246 3)) 1 ((up2 (up2 M2 246 3 ((M2 246 3) + 1)) (248 + (M2 246 3)) 0 (M2 246 4)) 246 5)) (248 + (M2 246 3)) 2 ((up2 (up2 (up2 M2 246 3 ((M2 246 3) + 1)) (248 + (M2 246 3)) 0 (M2 246 4)) (248 + (M2 246 3)) 1 ((up2 (up2 M2 246 3 ((M2 246 3) + 1)) (248 + (M2 246 3)) 0 (M2 246 4)) 246 5)) (6 + ((up2 (up2 (up2 M2 246 3 ((M2 246 3) + 1)) (248 + (M2 246 3)) 0 (M2 246 4)) (248 + (M2 246 3)) 1 ((up2 (up2 M2 246 3 ((M2 246 3) + 1)) (248 + (M2 246 3)) 0 (M2 246 4)) 246 5)) 246 4)) ((up2 (up2 (up2 M2 246 3 ((M2 246 3) + 1)) (248 + (M2 246 3)) 0 (M2 246 4)) (248 + (M2 246 3)) 1 ((up2 (up2 M2 246 3 ((M2 246 3) + 1)) (248 + (M2 246 3)) 0 (M2 246 4)) 246 5)) 246 6))) (248 + (M2 246 3)) 3 l1) 246 4) * 6) + ((up2 (up2 (up2 (up2 (up2 M2 246 3 ((M2 246 3) + 1)) (248 + (M2 246 3)) 0 (M2 246 4)) (248 + (M2 246 3)) 1 ((up2 (up2 M2 246 3 ((M2 246 3) + 1)) (248 + (M2 246 3)) 0 (M2 246 4)) 246 5)) (248 + (M2 246 3)) 2 ((up2 (up2 (up2 M2 246 3 ((M2 246 3) + 1)) (248 + (M2 246 3)) 0 (M2 246 4)) (248 + (M2 246 3)) 1 ((up2 (up2 M2 246 3 ((M2 246 3) + 1)) (248 + (M2 246 3)) 0 (M2 246 4)) 246 5)) (6 + ((up2 (up2 (up2 M2 246 3 ((M2 246 3) + 1)) (248 + (M2 246 3)) 0 (M2 246 4)) (248 + (M2 246 3)) 1 ((up2 (up2 M2 246 3 ((M2 246 3) + 1)) (248 + (M2 246 3)) 0 (M2 246 4)) 246 5)) 246 4)) ((up2 (up2 (up2 M2 246 3 ((M2 246 3) + 1)) (248 + (M2 246 3)) 0 (M2 246 4)) (248 + (M2 246 3)) 1 ((up2 (up2 M2 246 3 ((M2 246 3) + 1)) (248 + (M2 246 3)) 0 (M2 246 4)) 246 5)) 246 6))) (248 + (M2 246 3)) 3 l1) 246 5))) ((up2 (up2 (up2 (up2 (up2 M2 246 3 ((M2 246 3) + 1)) (248 + (M2 246 3)) 0 (M2 246 4)) (248 + (M2 246 3)) 1 ((up2 (up2 M2 246 3 ((M2 246 3) + 1)) (248 + (M2 246 3)) 0 (M2 246 4)) 246 5)) (248 + (M2 246 3)) 2 ((up2 (up2 (up2 M2 246 3 ((M2 246 3) + 1)) (248 + (M2 246 3)) 0 (M2 246 4)) (248 + (M2 246 3)) 1 ((up2 (up2 M2 246 3 ((M2 246 3) + 1)) (248 + (M2 246 3)) 0 (M2 246 4)) 246 5)) (6 + ((up2 (up2 (up2 M2 246 3 ((M2 246 3) + 1)) (248 + (M2 246 3)) 0 (M2 246 4)) (248 + (M2 246 3)) 1 ((up2 (up2 M2 246 3 ((M2 246 3) + 1)) (248 + (M2 246 3)) 0 (M2 246 4)) 246 5)) 246 4)) ((up2 (up2 (up2 M2 246 3 ((M2 246 3) + 1)) (248 + (M2 246 3)) 0 (M2 246 4)) (248 + (M2 246 3)) 1 ((up2 (up2 M2 246 3 ((M2 246 3) + 1)) (248 + (M2 246 3)) 0 (M2 246 4)) 246 5)) 246 6))) (248 + (M2 246 3)) 3 l1) 246 6))) (248 + (M2 246 3)) 5 ((up2 (up2 (up2 (up2 (up2 (up2 M2 246 3 ((M2 246 3) + 1)) (248 + (M2 246 3)) 0 (M2 246 4)) (248 + (M2 246 3)) 1 ((up2 (up2 M2 246 3 ((M2 246 3) + 1)) (248 + (M2 246 3)) 0 (M2 246 4)) 246 5)) (248 + (M2 246 3)) 2 ((up2 (up2 (up2 M2 246 3 ((M2 246 3) + 1)) (248 + (M2 246 3)) 0 (M2 246 4)) (248 + (M2 246 3)) 1 ((up2 (up2 M2 246 3 ((M2 246 3) + 1)) (248 + (M2 246 3)) 0 (M2 246 4)) 246 5)) (6 + ((up2 (up2 (up2 M2 246 3 ((M2 246 3) + 1)) (248 + (M2 246 3)) 0 (M2 246 4)) (248 + (M2 246 3)) 1 ((up2 (up2 M2 246 3 ((M2 246 3) + 1)) (248 + (M2 246 3)) 0 (M2 246 4)) 246 5)) 246 4)) ((up2 (up2 (up2 M2 246 3 ((M2 246 3) + 1)) (248 + (M2 246 3)) 0 (M2 246 4)) (248 + (M2 246 3)) 1 ((up2 (up2 M2 246 3 ((M2 246 3) + 1)) (248 + (M2 246 3)) 0 (M2 246 4)) 246 5)) 246 6))) (248 + (M2 246 3)) 3 l1) (248 + (M2 246 3)) 4 ((up2 (up2 (up2 (up2 (up2 M2 246 3 ((M2 246 3) + 1)) (248 + (M2 246 3)) 0 (M2 246 4)) (248 + (M2 246 3)) 1 ((up2 (up2 M2 246 3 ((M2 246 3) + 1)) (248 + (M2 246 3)) 0 (M2 246 4)) 246 5)) (248 + (M2 246 3)) 2 ((up2 (up2 (up2 M2 246 3 ((M2 246 3) + 1)) (248 + (M2 246 3)) 0 (M2 246 4)) (248 + (M2 246 3)) 1 ((up2 (up2 M2 246 3 ((M2 246 3) + 1)) (248 + (M2 246 3)) 0 (M2 246 4)) 246 5)) (6 + ((up2 (up2 (up2 M2 246 3 ((M2 246 3) + 1)) (248 + (M2 246 3)) 0 (M2 246 4)) (248 + (M2 246 3)) 1 ((up2 (up2 M2 246 3 ((M2 246 3) + 1)) (248 + (M2 246 3)) 0 (M2 246 4)) 246 5)) 246 4)) ((up2 (up2 (up2 M2 246 3 ((M2 246 3) + 1)) (248 + (M2 246 3)) 0 (M2 246 4)) (248 + (M2 246 3)) 1 ((up2 (up2 M2 246 3 ((M2 246 3) + 1)) (248 + (M2 246 3)) 0 (M2 246 4)) 246 5)) 246 6))) (248 + (M2 246 3)) 3 l1) (15 + ((((up2 (up2 (up2 (up2 (up2 M2 246 3 ((M2 246 3) + 1)) (248 + (M2 246 3)) 0 (M2 246 4)) (248 + (M2 246 3)) 1 ((up2 (up2 M2 246 3 ((M2 246 3) + 1)) (248 + (M2 246 3)) 0 (M2 246 4)) 246 5)) (248 + (M2 246 3)) 2 ((up2 (up2 (up2 M2 246 3 ((M2 246 3) + 1)) (248 + (M2 246 3)) 0 (M2 246 4)) (248 + (M2 246 3)) 1 ((up2 (up2 M2 246 3 ((M2 246 3) + 1)) (248 + (M2 246 3)) 0 (M2 246 4)) 246 5)) (6 + ((up2 (up2 (up2 M2 246 3 ((M2 246 3) + 1)) (248 + (M2 246 3)) 0 (M2 246 4)) (248 + (M2 246 3)) 1 ((up2 (up2 M2 246 3 ((M2 246 3) + 1)) (248 + (M2 246 3)) 0 (M2 246 4)) 246 5)) 246 4)) ((up2 (up2 (up2 M2 246 3 ((M2 246 3) + 1)) (248 + (M2 246 3)) 0 (M2 246 4)) (248 + (M2 246 3)) 1 ((up2 (up2 M2 246 3 ((M2 246 3) + 1)) (248 + (M2 246 3)) 0 (M2 246 4)) 246 5)) 246 6))) (248 + (M2 246 3)) 3 l1) 246 4) * 6) + ((up2 (up2 (up2 (up2 (up2 M2 246 3 ((M2 246 3) + 1)) (248 + (M2 246 3)) 0 (M2 246 4)) (248 + (M2 246 3)) 1 ((up2 (up2 M2 246 3 ((M2 246 3) + 1)) (248 + (M2 246 3)) 0 (M2 246 4)) 246 5)) (248 + (M2 246 3)) 2 ((up2 (up2 (up2 M2 246 3 ((M2 246 3) + 1)) (248 + (M2 246 3)) 0 (M2 246 4)) (248 + (M2 246 3)) 1 ((up2 (up2 M2 246 3 ((M2 246 3) + 1)) (248 + (M2 246 3)) 0 (M2 246 4)) 246 5)) (6 + ((up2 (up2 (up2 M2 246 3 ((M2 246 3) + 1)) (248 + (M2 246 3)) 0 (M2 246 4)) (248 + (M2 246 3)) 1 ((up2 (up2 M2 246 3 ((M2 246 3) + 1)) (248 + (M2 246 3)) 0 (M2 246 4)) 246 5)) 246 4)) ((up2 (up2 (up2 M2 246 3 ((M2 246 3) + 1)) (248 + (M2 246 3)) 0 (M2 246 4)) (248 + (M2 246 3)) 1 ((up2 (up2 M2 246 3 ((M2 246 3) + 1)) (248 + (M2 246 3)) 0 (M2 246 4)) 246 5)) 246 6))) (248 + (M2 246 3)) 3 l1) 246 5))) ((up2 (up2 (up2 (up2 (up2 M2 246 3 ((M2 246 3) + 1)) (248 + (M2 246 3)) 0 (M2 246 4)) (248 + (M2 246 3)) 1 ((up2 (up2 M2 246 3 ((M2 246 3) + 1)) (248 + (M2 246 3)) 0 (M2 246 4)) 246 5)) (248 + (M2 246 3)) 2 ((up2 (up2 (up2 M2 246 3 ((M2 246 3) + 1)) (248 + (M2 246 3)) 0 (M2 246 4)) (248 + (M2 246 3)) 1 ((up2 (up2 M2 246 3 ((M2 246 3) + 1)) (248 + (M2 246 3)) 0 (M2 246 4)) 246 5)) (6 + ((up2 (up2 (up2 M2 246 3 ((M2 246 3) + 1)) (248 + (M2 246 3)) 0 (M2 246 4)) (248 + (M2 246 3)) 1 ((up2 (up2 M2 246 3 ((M2 246 3) + 1)) (248 + (M2 246 3)) 0 (M2 246 4)) 246 5)) 246 4)) ((up2 (up2 (up2 M2 246 3 ((M2 246 3) + 1)) (248 + (M2 246 3)) 0 (M2 246 4)) (248 + (M2 246 3)) 1 ((up2 (up2 M2 246 3 ((M2 246 3) + 1)) (248 + (M2 246 3)) 0 (M2 246 4)) 246 5)) 246 6))) (248 + (M2 246 3)) 3 l1) 246 6))) (15 + ((((up2 (up2 (up2 (up2 (up2 (up2 M2 246 3 ((M2 246 3) + 1)) (248 + (M2 246 3)) 0 (M2 246 4)) (248 + (M2 246 3)) 1 ((up2 (up2 M2 246 3 ((M2 246 3) + 1)) (248 + (M2 246 3)) 0 (M2 246 4)) 246 5)) (248 + (M2 246 3)) 2 ((up2 (up2 (up2 M2 246 3 ((M2 246 3) + 1)) (248 + (M2 246 3)) 0 (M2 246 4)) (248 + (M2 246 3)) 1 ((up2 (up2 M2 246 3 ((M2 246 3) + 1)) (248 + (M2 246 3)) 0 (M2 246 4)) 246 5)) (6 + ((up2 (up2 (up2 M2 246 3 ((M2 246 3) + 1)) (248 + (M2 246 3)) 0 (M2 246 4)) (248 + (M2 246 3)) 1 ((up2 (up2 M2 246 3 ((M2 246 3) + 1)) (248 + (M2 246 3)) 0 (M2 246 4)) 246 5)) 246 4)) ((up2 (up2 (up2 M2 246 3 ((M2 246 3) + 1)) (248 + (M2 246 3)) 0 (M2 246 4)) (248 + (M2 246 3)) 1 ((up2 (up2 M2 246 3 ((M2 246 3) + 1)) (248 + (M2 246 3)) 0 (M2 246 4)) 246 5)) 246 6))) (248 + (M2 246 3)) 3 l1) (248 + (M2 246 3)) 4 ((up2 (up2 (up2 (up2 (up2 M2 246 3 ((M2 246 3) + 1)) (248 + (M2 246 3)) 0 (M2 246 4)) (248 + (M2 246 3)) 1 ((up2 (up2 M2 246 3 ((M2 246 3) + 1)) (248 + (M2 246 3)) 0 (M2 246 4)) 246 5)) (248 + (M2 246 3)) 2 ((up2 (up2 (up2 M2 246 3 ((M2 246 3) + 1)) (248 + (M2 246 3)) 0 (M2 246 4)) (248 + (M2 246 3)) 1 ((up2 (up2 M2 246 3 ((M2 246 3) + 1)) (248 + (M2 246 3)) 0 (M2 246 4)) 246 5)) (6 + ((up2 (up2 (up2 M2 246 3 ((M2 246 3) + 1)) (248 + (M2 246 3)) 0 (M2 246 4)) (248 + (M2 246 3)) 1 ((up2 (up2 M2 246 3 ((M2 246 3) + 1)) (248 + (M2 246 3)) 0 (M2 246 4)) 246 5)) 246 4)) ((up2 (up2 (up2 M2 246 3 ((M2 246 3) + 1)) (248 + (M2 246 3)) 0 (M2 246 4)) (248 + (M2 246 3)) 1 ((up2 (up2 M2 246 3 ((M2 246 3) + 1)) (248 + (M2 246 3)) 0 (M2 246 4)) 246 5)) 246 6))) (248 + (M2 246 3)) 3 l1) (15 + ((((up2 (up2 (up2 (up2 (up2 M2 246 3 ((M2 246 3) + 1)) (248 + (M2 246 3)) 0 (M2 246 4)) (248 + (M2 246 3)) 1 ((up2 (up2 M2 246 3 ((M2 246 3) + 1)) (248 + (M2 246 3)) 0 (M2 246 4)) 246 5)) (248 + (M2 246 3)) 2 ((up2 (up2 (up2 M2 246 3 ((M2 246 3) + 1)) (248 + (M2 246 3)) 0 (M2 246 4)) (248 + (M2 246 3)) 1 ((up2 (up2 M2 246 3 ((M2 246 3) + 1)) (248 + (M2 246 3)) 0 (M2 246 4)) 246 5)) (6 + ((up2 (up2 (up2 M2 246 3 ((M2 246 3) + 1)) (248 + (M2 246 3)) 0 (M2 246 4)) (248 + (M2 246 3)) 1 ((up2 (up2 M2 246 3 ((M2 246 3) + 1)) (248 + (M2 246 3)) 0 (M2 246 4)) 246 5)) 246 4)) ((up2 (up2 (up2 M2 246 3 ((M2 246 3) + 1)) (248 + (M2 246 3)) 0 (M2 246 4)) (248 + (M2 246 3)) 1 ((up2 (up2 M2 246 3 ((M2 246 3) + 1)) (248 + (M2 246 3)) 0 (M2 246 4)) 246 5)) 246 6))) (248 + (M2 246 3)) 3 l1) 246 4) * 6) + ((up2 (up2 (up2 (up2 (up2 M2 246 3 ((M2 246 3) + 1)) (248 + (M2 246 3)) 0 (M2 246 4)) (248 + (M2 246 3)) 1 ((up2 (up2 M2 246 3 ((M2 246 3) + 1)) (248 + (M2 246 3)) 0 (M2 246 4)) 246 5)) (248 + (M2 246 3)) 2 ((up2 (up2 (up2 M2 246 3 ((M2 246 3) + 1)) (248 + (M2 246 3)) 0 (M2 246 4)) (248 + (M2 246 3)) 1 ((up2 (up2 M2 246 3 ((M2 246 3) + 1)) (248 + (M2 246 3)) 0 (M2 246 4)) 246 5)) (6 + ((up2 (up2 (up2 M2 246 3 ((M2 246 3) + 1)) (248 + (M2 246 3)) 0 (M2 246 4)) (248 + (M2 246 3)) 1 ((up2 (up2 M2 246 3 ((M2 246 3) + 1)) (248 + (M2 246 3)) 0 (M2 246 4)) 246 5)) 246 4)) ((up2 (up2 (up2 M2 246 3 ((M2 246 3) + 1)) (248 + (M2 246 3)) 0 (M2 246 4)) (248 + (M2 246 3)) 1 ((up2 (up2 M2 246 3 ((M2 246 3) + 1)) (248 + (M2 246 3)) 0 (M2 246 4)) 246 5)) 246 6))) (248 + (M2 246 3)) 3 l1) 246 5))) ((up2 (up2 (up2 (up2 (up2 M2 246 3 ((M2 246 3) + 1)) (248 + (M2 246 3)) 0 (M2 246 4)) (248 + (M2 246 3)) 1 ((up2 (up2 M2 246 3 ((M2 246 3) + 1)) (248 + (M2 246 3)) 0 (M2 246 4)) 246 5)) (248 + (M2 246 3)) 2 ((up2 (up2 (up2 M2 246 3 ((M2 246 3) + 1)) (248 + (M2 246 3)) 0 (M2 246 4)) (248 + (M2 246 3)) 1 ((up2 (up2 M2 246 3 ((M2 246 3) + 1)) (248 + (M2 246 3)) 0 (M2 246 4)) 246 5)) (6 + ((up2 (up2 (up2 M2 246 3 ((M2 246 3) + 1)) (248 + (M2 246 3)) 0 (M2 246 4)) (248 + (M2 246 3)) 1 ((up2 (up2 M2 246 3 ((M2 246 3) + 1)) (248 + (M2 246 3)) 0 (M2 246 4)) 246 5)) 246 4)) ((up2 (up2 (up2 M2 246 3 ((M2 246 3) + 1)) (248 + (M2 246 3)) 0 (M2 246 4)) (248 + (M2 246 3)) 1 ((up2 (up2 M2 246 3 ((M2 246 3) + 1)) (248 + (M2 246 3)) 0 (M2 246 4)) 246 5)) 246 6))) (248 + (M2 246 3)) 3 l1) 246 6))) 246 4) * 6) + ((up2 (up2 (up2 (up2 (up2 (up2 M2 246 3 ((M2 246 3) + 1)) (248 + (M2 246 3)) 0 (M2 246 4)) (248 + (M2 246 3)) 1 ((up2 (up2 M2 246 3 ((M2 246 3) + 1)) (248 + (M2 246 3)) 0 (M2 246 4)) 246 5)) (248 + (M2 246 3)) 2 ((up2 (up2 (up2 M2 246 3 ((M2 246 3) + 1)) (248 + (M2 246 3)) 0 (M2 246 4)) (248 + (M2 246 3)) 1 ((up2 (up2 M2 246 3 ((M2 246 3) + 1)) (248 + (M2 246 3)) 0 (M2 246 4)) 246 5)) (6 + ((up2 (up2 (up2 M2 246 3 ((M2 246 3) + 1)) (248 + (M2 246 3)) 0 (M2 246 4)) (248 + (M2 246 3)) 1 ((up2 (up2 M2 246 3 ((M2 246 3) + 1)) (248 + (M2 246 3)) 0 (M2 246 4)) 246 5)) 246 4)) ((up2 (up2 (up2 M2 246 3 ((M2 246 3) + 1)) (248 + (M2 246 3)) 0 (M2 246 4)) (248 + (M2 246 3)) 1 ((up2 (up2 M2 246 3 ((M2 246 3) + 1)) (248 + (M2 246 3)) 0 (M2 246 4)) 246 5)) 246 6))) (248 + (M2 246 3)) 3 l1) (248 + (M2 246 3)) 4 ((up2 (up2 (up2 (up2 (up2 M2 246 3 ((M2 246 3) + 1)) (248 + (M2 246 3)) 0 (M2 246 4)) (248 + (M2 246 3)) 1 ((up2 (up2 M2 246 3 ((M2 246 3) + 1)) (248 + (M2 246 3)) 0 (M2 246 4)) 246 5)) (248 + (M2 246 3)) 2 ((up2 (up2 (up2 M2 246 3 ((M2 246 3) + 1)) (248 + (M2 246 3)) 0 (M2 246 4)) (248 + (M2 246 3)) 1 ((up2 (up2 M2 246 3 ((M2 246 3) + 1)) (248 + (M2 246 3)) 0 (M2 246 4)) 246 5)) (6 + ((up2 (up2 (up2 M2 246 3 ((M2 246 3) + 1)) (248 + (M2 246 3)) 0 (M2 246 4)) (248 + (M2 246 3)) 1 ((up2 (up2 M2 246 3 ((M2 246 3) + 1)) (248 + (M2 246 3)) 0 (M2 246 4)) 246 5)) 246 4)) ((up2 (up2 (up2 M2 246 3 ((M2 246 3) + 1)) (248 + (M2 246 3)) 0 (M2 246 4)) (248 + (M2 246 3)) 1 ((up2 (up2 M2 246 3 ((M2 246 3) + 1)) (248 + (M2 246 3)) 0 (M2 246 4)) 246 5)) 246 6))) (248 + (M2 246 3)) 3 l1) (15 + ((((up2 (up2 (up2 (up2 (up2 M2 246 3 ((M2 246 3) + 1)) (248 + (M2 246 3)) 0 (M2 246 4)) (248 + (M2 246 3)) 1 ((up2 (up2 M2 246 3 ((M2 246 3) + 1)) (248 + (M2 246 3)) 0 (M2 246 4)) 246 5)) (248 + (M2 246 3)) 2 ((up2 (up2 (up2 M2 246 3 ((M2 246 3) + 1)) (248 + (M2 246 3)) 0 (M2 246 4)) (248 + (M2 246 3)) 1 ((up2 (up2 M2 246 3 ((M2 246 3) + 1)) (248 + (M2 246 3)) 0 (M2 246 4)) 246 5)) (6 + ((up2 (up2 (up2 M2 246 3 ((M2 246 3) + 1)) (248 + (M2 246 3)) 0 (M2 246 4)) (248 + (M2 246 3)) 1 ((up2 (up2 M2 246 3 ((M2 246 3) + 1)) (248 + (M2 246 3)) 0 (M2 246 4)) 246 5)) 246 4)) ((up2 (up2 (up2 M2 246 3 ((M2 246 3) + 1)) (248 + (M2 246 3)) 0 (M2 246 4)) (248 + (M2 246 3)) 1 ((up2 (up2 M2 246 3 ((M2 246 3) + 1)) (248 + (M2 246 3)) 0 (M2 246 4)) 246 5)) 246 6))) (248 + (M2 246 3)) 3 l1) 246 4) * 6) + ((up2 (up2 (up2 (up2 (up2 M2 246 3 ((M2 246 3) + 1)) (248 + (M2 246 3)) 0 (M2 246 4)) (248 + (M2 246 3)) 1 ((up2 (up2 M2 246 3 ((M2 246 3) + 1)) (248 + (M2 246 3)) 0 (M2 246 4)) 246 5)) (248 + (M2 246 3)) 2 ((up2 (up2 (up2 M2 246 3 ((M2 246 3) + 1)) (248 + (M2 246 3)) 0 (M2 246 4)) (248 + (M2 246 3)) 1 ((up2 (up2 M2 246 3 ((M2 246 3) + 1)) (248 + (M2 246 3)) 0 (M2 246 4)) 246 5)) (6 + ((up2 (up2 (up2 M2 246 3 ((M2 246 3) + 1)) (248 + (M2 246 3)) 0 (M2 246 4)) (248 + (M2 246 3)) 1 ((up2 (up2 M2 246 3 ((M2 246 3) + 1)) (248 + (M2 246 3)) 0 (M2 246 4)) 246 5)) 246 4)) ((up2 (up2 (up2 M2 246 3 ((M2 246 3) + 1)) (248 + (M2 246 3)) 0 (M2 246 4)) (248 + (M2 246 3)) 1 ((up2 (up2 M2 246 3 ((M2 246 3) + 1)) (248 + (M2 246 3)) 0 (M2 246 4)) 246 5)) 246 6))) (248 + (M2 246 3)) 3 l1) 246 5))) ((up2 (up2 (up2 (up2 (up2 M2 246 3 ((M2 246 3) + 1)) (248 + (M2 246 3)) 0 (M2 246 4)) (248 + (M2 246 3)) 1 ((up2 (up2 M2 246 3 ((M2 246 3) + 1)) (248 + (M2 246 3)) 0 (M2 246 4)) 246 5)) (248 + (M2 246 3)) 2 ((up2 (up2 (up2 M2 246 3 ((M2 246 3) + 1)) (248 + (M2 246 3)) 0 (M2 246 4)) (248 + (M2 246 3)) 1 ((up2 (up2 M2 246 3 ((M2 246 3) + 1)) (248 + (M2 246 3)) 0 (M2 246 4)) 246 5)) (6 + ((up2 (up2 (up2 M2 246 3 ((M2 246 3) + 1)) (248 + (M2 246 3)) 0 (M2 246 4)) (248 + (M2 246 3)) 1 ((up2 (up2 M2 246 3 ((M2 246 3) + 1)) (248 + (M2 246 3)) 0 (M2 246 4)) 246 5)) 246 4)) ((up2 (up2 (up2 M2 246 3 ((M2 246 3) + 1)) (248 + (M2 246 3)) 0 (M2 246 4)) (248 + (M2 246 3)) 1 ((up2 (up2 M2 246 3 ((M2 246 3) + 1)) (248 + (M2 246 3)) 0 (M2 246 4)) 246 5)) 246 6))) (248 + (M2 246 3)) 3 l1) 246 6))) 246 5))) r1)) 246 6))] S0 (up2 (up2 (up2 (up2 (up2 (up2 (up2 M2 246 3 ((M2 246 3) + 1)) (248 + (M2 246 3)) 0 (M2 246 4)) (248 + (M2 246 3)) 1 ((up2 (up2 M2 246 3 ((M2 246 3) + 1)) (248 + (M2 246 3)) 0 (M2 246 4)) 246 5)) (248 + (M2 246 3)) 2 ((up2 (up2 (up2 M2 246 3 ((M2 246 3) + 1)) (248 + (M2 246 3)) 0 (M2 246 4)) (248 + (M2 246 3)) 1 ((up2 (up2 M2 246 3 ((M2 246 3) + 1)) (248 + (M2 246 3)) 0 (M2 246 4)) 246 5)) (6 + ((up2 (up2 (up2 M2 246 3 ((M2 246 3) + 1)) (248 + (M2 246 3)) 0 (M2 246 4)) (248 + (M2 246 3)) 1 ((up2 (up2 M2 246 3 ((M2 246 3) + 1)) (248 + (M2 246 3)) 0 (M2 246 4)) 246 5)) 246 4)) ((up2 (up2 (up2 M2 246 3 ((M2 246 3) + 1)) (248 + (M2 246 3)) 0 (M2 246 4)) (248 + (M2 246 3)) 1 ((up2 (up2 M2 246 3 ((M2 246 3) + 1)) (248 + (M2 246 3)) 0 (M2 246 4)) 246 5)) 246 6))) (248 + (M2 246 3)) 3 l1) (248 + (M2 246 3)) 4 ((up2 (up2 (up2 (up2 (up2 M2 246 3 ((M2 246 3) + 1)) (248 + (M2 246 3)) 0 (M2 246 4)) (248 + (M2 246 3)) 1 ((up2 (up2 M2 246 3 ((M2 246 3) + 1)) (248 + (M2 246 3)) 0 (M2 246 4)) 246 5)) (248 + (M2 246 3)) 2 ((up2 (up2 (up2 M2 246 3 ((M2 246 3) + 1)) (248 + (M2 246 3)) 0 (M2 246 4)) (248 + (M2 246 3)) 1 ((up2 (up2 M2 246 3 ((M2 246 3) + 1)) (248 + (M2 246 3)) 0 (M2 246 4)) 246 5)) (6 + ((up2 (up2 (up2 M2 246 3 ((M2 246 3) + 1)) (248 + (M2 246 3)) 0 (M2 246 4)) (248 + (M2 246 3)) 1 ((up2 (up2 M2 246 3 ((M2 246 3) + 1)) (248 + (M2 246 3)) 0 (M2 246 4)) 246 5)) 246 4)) ((up2 (up2 (up2 M2 246 3 ((M2 246 3) + 1)) (248 + (M2 246 3)) 0 (M2 246 4)) (248 + (M2 246 3)) 1 ((up2 (up2 M2 246 3 ((M2 246 3) + 1)) (248 + (M2 246 3)) 0 (M2 246 4)) 246 5)) 246 6))) (248 + (M2 246 3)) 3 l1) (15 + ((((up2 (up2 (up2 (up2 (up2 M2 246 3 ((M2 246 3) + 1)) (248 + (M2 246 3)) 0 (M2 246 4)) (248 + (M2 246 3)) 1 ((up2 (up2 M2 246 3 ((M2 246 3) + 1)) (248 + (M2 246 3)) 0 (M2 246 4)) 246 5)) (248 + (M2 246 3)) 2 ((up2 (up2 (up2 M2 246 3 ((M2 246 3) + 1)) (248 + (M2 246 3)) 0 (M2 246 4)) (248 + (M2 246 3)) 1 ((up2 (up2 M2 246 3 ((M2 246 3) + 1)) (248 + (M2 246 3)) 0 (M2 246 4)) 246 5)) (6 + ((up2 (up2 (up2 M2 246 3 ((M2 246 3) + 1)) (248 + (M2 246 3)) 0 (M2 246 4)) (248 + (M2 246 3)) 1 ((up2 (up2 M2 246 3 ((M2 246 3) + 1)) (248 + (M2 246 3)) 0 (M2 246 4)) 246 5)) 246 4)) ((up2 (up2 (up2 M2 246 3 ((M2 246 3) + 1)) (248 + (M2 246 3)) 0 (M2 246 4)) (248 + (M2 246 3)) 1 ((up2 (up2 M2 246 3 ((M2 246 3) + 1)) (248 + (M2 246 3)) 0 (M2 246 4)) 246 5)) 246 6))) (248 + (M2 246 3)) 3 l1) 246 4) * 6) + ((up2 (up2 (up2 (up2 (up2 M2 246 3 ((M2 246 3) + 1)) (248 + (M2 246 3)) 0 (M2 246 4)) (248 + (M2 246 3)) 1 ((up2 (up2 M2 246 3 ((M2 246 3) + 1)) (248 + (M2 246 3)) 0 (M2 246 4)) 246 5)) (248 + (M2 246 3)) 2 ((up2 (up2 (up2 M2 246 3 ((M2 246 3) + 1)) (248 + (M2 246 3)) 0 (M2 246 4)) (248 + (M2 246 3)) 1 ((up2 (up2 M2 246 3 ((M2 246 3) + 1)) (248 + (M2 246 3)) 0 (M2 246 4)) 246 5)) (6 + ((up2 (up2 (up2 M2 246 3 ((M2 246 3) + 1)) (248 + (M2 246 3)) 0 (M2 246 4)) (248 + (M2 246 3)) 1 ((up2 (up2 M2 246 3 ((M2 246 3) + 1)) (248 + (M2 246 3)) 0 (M2 246 4)) 246 5)) 246 4)) ((up2 (up2 (up2 M2 246 3 ((M2 246 3) + 1)) (248 + (M2 246 3)) 0 (M2 246 4)) (248 + (M2 246 3)) 1 ((up2 (up2 M2 246 3 ((M2 246 3) + 1)) (248 + (M2 246 3)) 0 (M2 246 4)) 246 5)) 246 6))) (248 + (M2 246 3)) 3 l1) 246 5))) ((up2 (up2 (up2 (up2 (up2 M2 246 3 ((M2 246 3) + 1)) (248 + (M2 246 3)) 0 (M2 246 4)) (248 + (M2 246 3)) 1 ((up2 (up2 M2 246 3 ((M2 246 3) + 1)) (248 + (M2 246 3)) 0 (M2 246 4)) 246 5)) (248 + (M2 246 3)) 2 ((up2 (up2 (up2 M2 246 3 ((M2 246 3) + 1)) (248 + (M2 246 3)) 0 (M2 246 4)) (248 + (M2 246 3)) 1 ((up2 (up2 M2 246 3 ((M2 246 3) + 1)) (248 + (M2 246 3)) 0 (M2 246 4)) 246 5)) (6 + ((up2 (up2 (up2 M2 246 3 ((M2 246 3) + 1)) (248 + (M2 246 3)) 0 (M2 246 4)) (248 + (M2 246 3)) 1 ((up2 (up2 M2 246 3 ((M2 246 3) + 1)) (248 + (M2 246 3)) 0 (M2 246 4)) 246 5)) 246 4)) ((up2 (up2 (up2 M2 246 3 ((M2 246 3) + 1)) (248 + (M2 246 3)) 0 (M2 246 4)) (248 + (M2 246 3)) 1 ((up2 (up2 M2 246 3 ((M2 246 3) + 1)) (248 + (M2 246 3)) 0 (M2 246 4)) 246 5)) 246 6))) (248 + (M2 246 3)) 3 l1) 246 6))) (248 + (M2 246 3)) 5 ((up2 (up2 (up2 (up2 (up2 (up2 M2 246 3 ((M2 246 3) + 1)) (248 + (M2 246 3)) 0 (M2 246 4)) (248 + (M2 246 3)) 1 ((up2 (up2 M2 246 3 ((M2 246 3) + 1)) (248 + (M2 246 3)) 0 (M2 246 4)) 246 5)) (248 + (M2 246 3)) 2 ((up2 (up2 (up2 M2 246 3 ((M2 246 3) + 1)) (248 + (M2 246 3)) 0 (M2 246 4)) (248 + (M2 246 3)) 1 ((up2 (up2 M2 246 3 ((M2 246 3) + 1)) (248 + (M2 246 3)) 0 (M2 246 4)) 246 5)) (6 + ((up2 (up2 (up2 M2 246 3 ((M2 246 3) + 1)) (248 + (M2 246 3)) 0 (M2 246 4)) (248 + (M2 246 3)) 1 ((up2 (up2 M2 246 3 ((M2 246 3) + 1)) (248 + (M2 246 3)) 0 (M2 246 4)) 246 5)) 246 4)) ((up2 (up2 (up2 M2 246 3 ((M2 246 3) + 1)) (248 + (M2 246 3)) 0 (M2 246 4)) (248 + (M2 246 3)) 1 ((up2 (up2 M2 246 3 ((M2 246 3) + 1)) (248 + (M2 246 3)) 0 (M2 246 4)) 246 5)) 246 6))) (248 + (M2 246 3)) 3 l1) (248 + (M2 246 3)) 4 ((up2 (up2 (up2 (up2 (up2 M2 246 3 ((M2 246 3) + 1)) (248 + (M2 246 3)) 0 (M2 246 4)) (248 + (M2 246 3)) 1 ((up2 (up2 M2 246 3 ((M2 246 3) + 1)) (248 + (M2 246 3)) 0 (M2 246 4)) 246 5)) (248 + (M2 246 3)) 2 ((up2 (up2 (up2 M2 246 3 ((M2 246 3) + 1)) (248 + (M2 246 3)) 0 (M2 246 4)) (248 + (M2 246 3)) 1 ((up2 (up2 M2 246 3 ((M2 246 3) + 1)) (248 + (M2 246 3)) 0 (M2 246 4)) 246 5)) (6 + ((up2 (up2 (up2 M2 246 3 ((M2 246 3) + 1)) (248 + (M2 246 3)) 0 (M2 246 4)) (248 + (M2 246 3)) 1 ((up2 (up2 M2 246 3 ((M2 246 3) + 1)) (248 + (M2 246 3)) 0 (M2 246 4)) 246 5)) 246 4)) ((up2 (up2 (up2 M2 246 3 ((M2 246 3) + 1)) (248 + (M2 246 3)) 0 (M2 246 4)) (248 + (M2 246 3)) 1 ((up2 (up2 M2 246 3 ((M2 246 3) + 1)) (248 + (M2 246 3)) 0 (M2 246 4)) 246 5)) 246 6))) (248 + (M2 246 3)) 3 l1) (15 + ((((up2 (up2 (up2 (up2 (up2 M2 246 3 ((M2 246 3) + 1)) (248 + (M2 246 3)) 0 (M2 246 4)) (248 + (M2 246 3)) 1 ((up2 (up2 M2 246 3 ((M2 246 3) + 1)) (248 + (M2 246 3)) 0 (M2 246 4)) 246 5)) (248 + (M2 246 3)) 2 ((up2 (up2 (up2 M2 246 3 ((M2 246 3) + 1)) (248 + (M2 246 3)) 0 (M2 246 4)) (248 + (M2 246 3)) 1 ((up2 (up2 M2 246 3 ((M2 246 3) + 1)) (248 + (M2 246 3)) 0 (M2 246 4)) 246 5)) (6 + ((up2 (up2 (up2 M2 246 3 ((M2 246 3) + 1)) (248 + (M2 246 3)) 0 (M2 246 4)) (248 + (M2 246 3)) 1 ((up2 (up2 M2 246 3 ((M2 246 3) + 1)) (248 + (M2 246 3)) 0 (M2 246 4)) 246 5)) 246 4)) ((up2 (up2 (up2 M2 246 3 ((M2 246 3) + 1)) (248 + (M2 246 3)) 0 (M2 246 4)) (248 + (M2 246 3)) 1 ((up2 (up2 M2 246 3 ((M2 246 3) + 1)) (248 + (M2 246 3)) 0 (M2 246 4)) 246 5)) 246 6))) (248 + (M2 246 3)) 3 l1) 246 4) * 6) + ((up2 (up2 (up2 (up2 (up2 M2 246 3 ((M2 246 3) + 1)) (248 + (M2 246 3)) 0 (M2 246 4)) (248 + (M2 246 3)) 1 ((up2 (up2 M2 246 3 ((M2 246 3) + 1)) (248 + (M2 246 3)) 0 (M2 246 4)) 246 5)) (248 + (M2 246 3)) 2 ((up2 (up2 (up2 M2 246 3 ((M2 246 3) + 1)) (248 + (M2 246 3)) 0 (M2 246 4)) (248 + (M2 246 3)) 1 ((up2 (up2 M2 246 3 ((M2 246 3) + 1)) (248 + (M2 246 3)) 0 (M2 246 4)) 246 5)) (6 + ((up2 (up2 (up2 M2 246 3 ((M2 246 3) + 1)) (248 + (M2 246 3)) 0 (M2 246 4)) (248 + (M2 246 3)) 1 ((up2 (up2 M2 246 3 ((M2 246 3) + 1)) (248 + (M2 246 3)) 0 (M2 246 4)) 246 5)) 246 4)) ((up2 (up2 (up2 M2 246 3 ((M2 246 3) + 1)) (248 + (M2 246 3)) 0 (M2 246 4)) (248 + (M2 246 3)) 1 ((up2 (up2 M2 246 3 ((M2 246 3) + 1)) (248 + (M2 246 3)) 0 (M2 246 4)) 246 5)) 246 6))) (248 + (M2 246 3)) 3 l1) 246 5))) ((up2 (up2 (up2 (up2 (up2 M2 246 3 ((M2 246 3) + 1)) (248 + (M2 246 3)) 0 (M2 246 4)) (248 + (M2 246 3)) 1 ((up2 (up2 M2 246 3 ((M2 246 3) + 1)) (248 + (M2 246 3)) 0 (M2 246 4)) 246 5)) (248 + (M2 246 3)) 2 ((up2 (up2 (up2 M2 246 3 ((M2 246 3) + 1)) (248 + (M2 246 3)) 0 (M2 246 4)) (248 + (M2 246 3)) 1 ((up2 (up2 M2 246 3 ((M2 246 3) + 1)) (248 + (M2 246 3)) 0 (M2 246 4)) 246 5)) (6 + ((up2 (up2 (up2 M2 246 3 ((M2 246 3) + 1)) (248 + (M2 246 3)) 0 (M2 246 4)) (248 + (M2 246 3)) 1 ((up2 (up2 M2 246 3 ((M2 246 3) + 1)) (248 + (M2 246 3)) 0 (M2 246 4)) 246 5)) 246 4)) ((up2 (up2 (up2 M2 246 3 ((M2 246 3) + 1)) (248 + (M2 246 3)) 0 (M2 246 4)) (248 + (M2 246 3)) 1 ((up2 (up2 M2 246 3 ((M2 246 3) + 1)) (248 + (M2 246 3)) 0 (M2 246 4)) 246 5)) 246 6))) (248 + (M2 246 3)) 3 l1) 246 6))) (15 + ((((up2 (up2 (up2 (up2 (up2 (up2 M2 246 3 ((M2 246 3) + 1)) (248 + (M2 246 3)) 0 (M2 246 4)) (248 + (M2 246 3)) 1 ((up2 (up2 M2 246 3 ((M2 246 3) + 1)) (248 + (M2 246 3)) 0 (M2 246 4)) 246 5)) (248 + (M2 246 3)) 2 ((up2 (up2 (up2 M2 246 3 ((M2 246 3) + 1)) (248 + (M2 246 3)) 0 (M2 246 4)) (248 + (M2 246 3)) 1 ((up2 (up2 M2 246 3 ((M2 246 3) + 1)) (248 + (M2 246 3)) 0 (M2 246 4)) 246 5)) (6 + ((up2 (up2 (up2 M2 246 3 ((M2 246 3) + 1)) (248 + (M2 246 3)) 0 (M2 246 4)) (248 + (M2 246 3)) 1 ((up2 (up2 M2 246 3 ((M2 246 3) + 1)) (248 + (M2 246 3)) 0 (M2 246 4)) 246 5)) 246 4)) ((up2 (up2 (up2 M2 246 3 ((M2 246 3) + 1)) (248 + (M2 246 3)) 0 (M2 246 4)) (248 + (M2 246 3)) 1 ((up2 (up2 M2 246 3 ((M2 246 3) + 1)) (248 + (M2 246 3)) 0 (M2 246 4)) 246 5)) 246 6))) (248 + (M2 246 3)) 3 l1) (248 + (M2 246 3)) 4 ((up2 (up2 (up2 (up2 (up2 M2 246 3 ((M2 246 3) + 1)) (248 + (M2 246 3)) 0 (M2 246 4)) (248 + (M2 246 3)) 1 ((up2 (up2 M2 246 3 ((M2 246 3) + 1)) (248 + (M2 246 3)) 0 (M2 246 4)) 246 5)) (248 + (M2 246 3)) 2 ((up2 (up2 (up2 M2 246 3 ((M2 246 3) + 1)) (248 + (M2 246 3)) 0 (M2 246 4)) (248 + (M2 246 3)) 1 ((up2 (up2 M2 246 3 ((M2 246 3) + 1)) (248 + (M2 246 3)) 0 (M2 246 4)) 246 5)) (6 + ((up2 (up2 (up2 M2 246 3 ((M2 246 3) + 1)) (248 + (M2 246 3)) 0 (M2 246 4)) (248 + (M2 246 3)) 1 ((up2 (up2 M2 246 3 ((M2 246 3) + 1)) (248 + (M2 246 3)) 0 (M2 246 4)) 246 5)) 246 4)) ((up2 (up2 (up2 M2 246 3 ((M2 246 3) + 1)) (248 + (M2 246 3)) 0 (M2 246 4)) (248 + (M2 246 3)) 1 ((up2 (up2 M2 246 3 ((M2 246 3) + 1)) (248 + (M2 246 3)) 0 (M2 246 4)) 246 5)) 246 6))) (248 + (M2 246 3)) 3 l1) (15 + ((((up2 (up2 (up2 (up2 (up2 M2 246 3 ((M2 246 3) + 1)) (248 + (M2 246 3)) 0 (M2 246 4)) (248 + (M2 246 3)) 1 ((up2 (up2 M2 246 3 ((M2 246 3) + 1)) (248 + (M2 246 3)) 0 (M2 246 4)) 246 5)) (248 + (M2 246 3)) 2 ((up2 (up2 (up2 M2 246 3 ((M2 246 3) + 1)) (248 + (M2 246 3)) 0 (M2 246 4)) (248 + (M2 246 3)) 1 ((up2 (up2 M2 246 3 ((M2 246 3) + 1)) (248 + (M2 246 3)) 0 (M2 246 4)) 246 5)) (6 + ((up2 (up2 (up2 M2 246 3 ((M2 246 3) + 1)) (248 + (M2 246 3)) 0 (M2 246 4)) (248 + (M2 246 3)) 1 ((up2 (up2 M2 246 3 ((M2 246 3) + 1)) (248 + (M2 246 3)) 0 (M2 246 4)) 246 5)) 246 4)) ((up2 (up2 (up2 M2 246 3 ((M2 246 3) + 1)) (248 + (M2 246 3)) 0 (M2 246 4)) (248 + (M2 246 3)) 1 ((up2 (up2 M2 246 3 ((M2 246 3) + 1)) (248 + (M2 246 3)) 0 (M2 246 4)) 246 5)) 246 6))) (248 + (M2 246 3)) 3 l1) 246 4) * 6) + ((up2 (up2 (up2 (up2 (up2 M2 246 3 ((M2 246 3) + 1)) (248 + (M2 246 3)) 0 (M2 246 4)) (248 + (M2 246 3)) 1 ((up2 (up2 M2 246 3 ((M2 246 3) + 1)) (248 + (M2 246 3)) 0 (M2 246 4)) 246 5)) (248 + (M2 246 3)) 2 ((up2 (up2 (up2 M2 246 3 ((M2 246 3) + 1)) (248 + (M2 246 3)) 0 (M2 246 4)) (248 + (M2 246 3)) 1 ((up2 (up2 M2 246 3 ((M2 246 3) + 1)) (248 + (M2 246 3)) 0 (M2 246 4)) 246 5)) (6 + ((up2 (up2 (up2 M2 246 3 ((M2 246 3) + 1)) (248 + (M2 246 3)) 0 (M2 246 4)) (248 + (M2 246 3)) 1 ((up2 (up2 M2 246 3 ((M2 246 3) + 1)) (248 + (M2 246 3)) 0 (M2 246 4)) 246 5)) 246 4)) ((up2 (up2 (up2 M2 246 3 ((M2 246 3) + 1)) (248 + (M2 246 3)) 0 (M2 246 4)) (248 + (M2 246 3)) 1 ((up2 (up2 M2 246 3 ((M2 246 3) + 1)) (248 + (M2 246 3)) 0 (M2 246 4)) 246 5)) 246 6))) (248 + (M2 246 3)) 3 l1) 246 5))) ((up2 (up2 (up2 (up2 (up2 M2 246 3 ((M2 246 3) + 1)) (248 + (M2 246 3)) 0 (M2 246 4)) (248 + (M2 246 3)) 1 ((up2 (up2 M2 246 3 ((M2 246 3) + 1)) (248 + (M2 246 3)) 0 (M2 246 4)) 246 5)) (248 + (M2 246 3)) 2 ((up2 (up2 (up2 M2 246 3 ((M2 246 3) + 1)) (248 + (M2 246 3)) 0 (M2 246 4)) (248 + (M2 246 3)) 1 ((up2 (up2 M2 246 3 ((M2 246 3) + 1)) (248 + (M2 246 3)) 0 (M2 246 4)) 246 5)) (6 + ((up2 (up2 (up2 M2 246 3 ((M2 246 3) + 1)) (248 + (M2 246 3)) 0 (M2 246 4)) (248 + (M2 246 3)) 1 ((up2 (up2 M2 246 3 ((M2 246 3) + 1)) (248 + (M2 246 3)) 0 (M2 246 4)) 246 5)) 246 4)) ((up2 (up2 (up2 M2 246 3 ((M2 246 3) + 1)) (248 + (M2 246 3)) 0 (M2 246 4)) (248 + (M2 246 3)) 1 ((up2 (up2 M2 246 3 ((M2 246 3) + 1)) (248 + (M2 246 3)) 0 (M2 246 4)) 246 5)) 246 6))) (248 + (M2 246 3)) 3 l1) 246 6))) 246 4) * 6) + ((up2 (up2 (up2 (up2 (up2 (up2 M2 246 3 ((M2 246 3) + 1)) (248 + (M2 246 3)) 0 (M2 246 4)) (248 + (M2 246 3)) 1 ((up2 (up2 M2 246 3 ((M2 246 3) + 1)) (248 + (M2 246 3)) 0 (M2 246 4)) 246 5)) (248 + (M2 246 3)) 2 ((up2 (up2 (up2 M2 246 3 ((M2 246 3) + 1)) (248 + (M2 246 3)) 0 (M2 246 4)) (248 + (M2 246 3)) 1 ((up2 (up2 M2 246 3 ((M2 246 3) + 1)) (248 + (M2 246 3)) 0 (M2 246 4)) 246 5)) (6 + ((up2 (up2 (up2 M2 246 3 ((M2 246 3) + 1)) (248 + (M2 246 3)) 0 (M2 246 4)) (248 + (M2 246 3)) 1 ((up2 (up2 M2 246 3 ((M2 246 3) + 1)) (248 + (M2 246 3)) 0 (M2 246 4)) 246 5)) 246 4)) ((up2 (up2 (up2 M2 246 3 ((M2 246 3) + 1)) (248 + (M2 246 3)) 0 (M2 246 4)) (248 + (M2 246 3)) 1 ((up2 (up2 M2 246 3 ((M2 246 3) + 1)) (248 + (M2 246 3)) 0 (M2 246 4)) 246 5)) 246 6))) (248 + (M2 246 3)) 3 l1) (248 + (M2 246 3)) 4 ((up2 (up2 (up2 (up2 (up2 M2 246 3 ((M2 246 3) + 1)) (248 + (M2 246 3)) 0 (M2 246 4)) (248 + (M2 246 3)) 1 ((up2 (up2 M2 246 3 ((M2 246 3) + 1)) (248 + (M2 246 3)) 0 (M2 246 4)) 246 5)) (248 + (M2 246 3)) 2 ((up2 (up2 (up2 M2 246 3 ((M2 246 3) + 1)) (248 + (M2 246 3)) 0 (M2 246 4)) (248 + (M2 246 3)) 1 ((up2 (up2 M2 246 3 ((M2 246 3) + 1)) (248 + (M2 246 3)) 0 (M2 246 4)) 246 5)) (6 + ((up2 (up2 (up2 M2 246 3 ((M2 246 3) + 1)) (248 + (M2 246 3)) 0 (M2 246 4)) (248 + (M2 246 3)) 1 ((up2 (up2 M2 246 3 ((M2 246 3) + 1)) (248 + (M2 246 3)) 0 (M2 246 4)) 246 5)) 246 4)) ((up2 (up2 (up2 M2 246 3 ((M2 246 3) + 1)) (248 + (M2 246 3)) 0 (M2 246 4)) (248 + (M2 246 3)) 1 ((up2 (up2 M2 246 3 ((M2 246 3) + 1)) (248 + (M2 246 3)) 0 (M2 246 4)) 246 5)) 246 6))) (248 + (M2 246 3)) 3 l1) (15 + ((((up2 (up2 (up2 (up2 (up2 M2 246 3 ((M2 246 3) + 1)) (248 + (M2 246 3)) 0 (M2 246 4)) (248 + (M2 246 3)) 1 ((up2 (up2 M2 246 3 ((M2 246 3) + 1)) (248 + (M2 246 3)) 0 (M2 246 4)) 246 5)) (248 + (M2 246 3)) 2 ((up2 (up2 (up2 M2 246 3 ((M2 246 3) + 1)) (248 + (M2 246 3)) 0 (M2 246 4)) (248 + (M2 246 3)) 1 ((up2 (up2 M2 246 3 ((M2 246 3) + 1)) (248 + (M2 246 3)) 0 (M2 246 4)) 246 5)) (6 + ((up2 (up2 (up2 M2 246 3 ((M2 246 3) + 1)) (248 + (M2 246 3)) 0 (M2 246 4)) (248 + (M2 246 3)) 1 ((up2 (up2 M2 246 3 ((M2 246 3) + 1)) (248 + (M2 246 3)) 0 (M2 246 4)) 246 5)) 246 4)) ((up2 (up2 (up2 M2 246 3 ((M2 246 3) + 1)) (248 + (M2 246 3)) 0 (M2 246 4)) (248 + (M2 246 3)) 1 ((up2 (up2 M2 246 3 ((M2 246 3) + 1)) (248 + (M2 246 3)) 0 (M2 246 4)) 246 5)) 246 6))) (248 + (M2 246 3)) 3 l1) 246 4) * 6) + ((up2 (up2 (up2 (up2 (up2 M2 246 3 ((M2 246 3) + 1)) (248 + (M2 246 3)) 0 (M2 246 4)) (248 + (M2 246 3)) 1 ((up2 (up2 M2 246 3 ((M2 246 3) + 1)) (248 + (M2 246 3)) 0 (M2 246 4)) 246 5)) (248 + (M2 246 3)) 2 ((up2 (up2 (up2 M2 246 3 ((M2 246 3) + 1)) (248 + (M2 246 3)) 0 (M2 246 4)) (248 + (M2 246 3)) 1 ((up2 (up2 M2 246 3 ((M2 246 3) + 1)) (248 + (M2 246 3)) 0 (M2 246 4)) 246 5)) (6 + ((up2 (up2 (up2 M2 246 3 ((M2 246 3) + 1)) (248 + (M2 246 3)) 0 (M2 246 4)) (248 + (M2 246 3)) 1 ((up2 (up2 M2 246 3 ((M2 246 3) + 1)) (248 + (M2 246 3)) 0 (M2 246 4)) 246 5)) 246 4)) ((up2 (up2 (up2 M2 246 3 ((M2 246 3) + 1)) (248 + (M2 246 3)) 0 (M2 246 4)) (248 + (M2 246 3)) 1 ((up2 (up2 M2 246 3 ((M2 246 3) + 1)) (248 + (M2 246 3)) 0 (M2 246 4)) 246 5)) 246 6))) (248 + (M2 246 3)) 3 l1) 246 5))) ((up2 (up2 (up2 (up2 (up2 M2 246 3 ((M2 246 3) + 1)) (248 + (M2 246 3)) 0 (M2 246 4)) (248 + (M2 246 3)) 1 ((up2 (up2 M2 246 3 ((M2 246 3) + 1)) (248 + (M2 246 3)) 0 (M2 246 4)) 246 5)) (248 + (M2 246 3)) 2 ((up2 (up2 (up2 M2 246 3 ((M2 246 3) + 1)) (248 + (M2 246 3)) 0 (M2 246 4)) (248 + (M2 246 3)) 1 ((up2 (up2 M2 246 3 ((M2 246 3) + 1)) (248 + (M2 246 3)) 0 (M2 246 4)) 246 5)) (6 + ((up2 (up2 (up2 M2 246 3 ((M2 246 3) + 1)) (248 + (M2 246 3)) 0 (M2 246 4)) (248 + (M2 246 3)) 1 ((up2 (up2 M2 246 3 ((M2 246 3) + 1)) (248 + (M2 246 3)) 0 (M2 246 4)) 246 5)) 246 4)) ((up2 (up2 (up2 M2 246 3 ((M2 246 3) + 1)) (248 + (M2 246 3)) 0 (M2 246 4)) (248 + (M2 246 3)) 1 ((up2 (up2 M2 246 3 ((M2 246 3) + 1)) (248 + (M2 246 3)) 0 (M2 246 4)) 246 5)) 246 6))) (248 + (M2 246 3)) 3 l1) 246 6))) 246 5))) r1)) (fun r23 M24 => Q (M24 (248 + (M2 246 3)) 2) (up2 M24 (248 + (M2 246 3)) 6 r23))) ∧ (¬ (0 ≤ r1) → Q l1 M2)))))) : AW mX5_addRide 0 [(2, 246), (0, l1), (9, 0), (9, 0)] M Q := by
  refine a_aload_n (pc := 0) dX5_addRide_0 (by decide) rfl ?_
  refine a_getR (y := 1) (pc := 1) dX5_addRide_1 fl_RX5_9 (by decide) s0_246 rfl rfl ?_
  refine a_aload_n (pc := 4) dX5_addRide_4 (by decide) rfl ?_
  refine a_getI (y := 4) (pc := 5) dX5_addRide_5 fl_RX5_28 (by decide) s0_246 (Or.inl rfl) rfl ?_
  refine a_iload_n (pc := 8) dX5_addRide_8 rfl ?_
  refine p_callV (As := [(0, M 246 4), (0, l1)]) (st := []) (st1 := fun r => [(0, r)])  (pc := 9) dX5_addRide_9 ml_RX5_63 (by decide) s0_1 rfl (by decide) (Nat.le_of_ble_eq_true rfl) rfl (fun _ => rfl) h (fun r1 M2 h => ?_)
  refine a_istore_n (ls1 := [(2, 246), (0, l1), (0, r1), (9, 0)]) (pc := 12) dX5_addRide_12 (by decide) (hp1 (t := 0) rfl (by decide)) rfl ?_
  refine a_aload_n (pc := 13) dX5_addRide_13 (by decide) rfl ?_
  refine a_getI (y := 3) (pc := 14) dX5_addRide_14 fl_RX5_24 (by decide) s0_246 (Or.inl rfl) rfl ?_
  refine a_bipush (pc := 17) dX5_addRide_17 (by decide) (by decide +kernel) ?_
  refine a_icmp_ge (tgt := 26) (pc := 19) dX5_addRide_19 (by decide) (fun hc3 => ?_) (fun hc3 => ?_)
  · replace h := h.1 hc3
    refine a_iload_n (pc := 26) dX5_addRide_26 rfl ?_
    exact a_ireti (pc := 27) dX5_addRide_27 rfl rfl (Nat.le_of_ble_eq_true rfl) ⟨rfl, h⟩
  · replace h := h.2 hc3
    refine a_iload_n (pc := 22) dX5_addRide_22 rfl ?_
    refine a_if_ge (tgt := 28) (pc := 23) dX5_addRide_23 (by decide) (fun hc4 => ?_) (fun hc4 => ?_)
    · replace h := h.1 hc4
      refine a_aload_n (pc := 28) dX5_addRide_28 (by decide) rfl ?_
      refine a_getR (y := 247) (pc := 29) dX5_addRide_29 fl_RX5_21 (by decide) s0_246 rfl rfl ?_
      refine a_aload_n (pc := 32) dX5_addRide_32 (by decide) rfl ?_
      refine a_getI (y := 3) (pc := 33) dX5_addRide_33 fl_RX5_24 (by decide) s0_246 (Or.inl rfl) rfl ?_
      have ho5 := h.1
      replace h := h.2
      have hr6 := rw_247 (M2 246 3) ho5.1 ho5.2
      refine a_aald (y := 248 + (M2 246 3)) (pc := 36) dX5_addRide_36 (by decide) s0_247 ho5.1 ho5.2 (by omega) ?_
      refine a_astore_n (ls1 := [(2, 246), (0, l1), (0, r1), (2, 248 + (M2 246 3))]) (pc := 37) dX5_addRide_37 hr6.1 (by decide) (hp1 (t := 0) rfl (by decide)) rfl ?_
      refine a_aload_n (pc := 38) dX5_addRide_38 (by decide) rfl ?_
      refine a_dup (pc := 39) dX5_addRide_39 n21 ?_
      refine a_getI (y := 3) (pc := 40) dX5_addRide_40 fl_RX5_24 (by decide) s0_246 (Or.inl rfl) rfl ?_
      refine a_iconst (pc := 43) dX5_addRide_43 (by decide) ?_
      have ho7 := h.1
      replace h := h.2
      refine a_iadd (pc := 44) dX5_addRide_44 ho7 ?_
      refine a_putI (y := 3) (pc := 45) dX5_addRide_45 fl_RX5_24 (by decide) s0_246 rfl rfl (tyX5_ok 3 (by decide)) rfl ?_
      refine a_aload_n (pc := 48) dX5_addRide_48 hr6.1 rfl ?_
      refine a_iconst (pc := 49) dX5_addRide_49 (by decide) ?_
      refine a_aload_n (pc := 50) dX5_addRide_50 (by decide) rfl ?_
      refine a_getI (y := 4) (pc := 51) dX5_addRide_51 fl_RX5_28 (by decide) s0_246 (Or.inl rfl) rfl ?_
      refine a_eq (y := M2 246 4) rfl ?_
      refine a_iast (pc := 54) dX5_addRide_54 hr6.1 hr6.2 (by decide) (by decide) ?_
      refine a_aload_n (pc := 55) dX5_addRide_55 hr6.1 rfl ?_
      refine a_iconst (pc := 56) dX5_addRide_56 (by decide) ?_
      refine a_aload_n (pc := 57) dX5_addRide_57 (by decide) rfl ?_
      refine a_getI (y := 5) (pc := 58) dX5_addRide_58 fl_RX5_31 (by decide) s0_246 (Or.inl rfl) rfl ?_
      refine a_iast (pc := 61) dX5_addRide_61 hr6.1 hr6.2 (by decide) (by decide) ?_
      refine a_aload_n (pc := 62) dX5_addRide_62 hr6.1 rfl ?_
      refine a_iconst (pc := 63) dX5_addRide_63 (by decide) ?_
      refine a_aload_n (pc := 64) dX5_addRide_64 (by decide) rfl ?_
      refine a_getR (y := 1) (pc := 65) dX5_addRide_65 fl_RX5_9 (by decide) s0_246 rfl rfl ?_
      refine a_getR (y := 5) (pc := 68) dX5_addRide_68 fl_RX5_83 (by decide) s0_1 rfl rfl ?_
      refine a_aload_n (pc := 71) dX5_addRide_71 (by decide) rfl ?_
      refine a_getI (y := 4) (pc := 72) dX5_addRide_72 fl_RX5_28 (by decide) s0_246 (Or.inl rfl) rfl ?_
      have ho8 := h.1
      replace h := h.2
      have hr9 := rw_5 ((up2 (up2 (up2 M2 246 3 ((M2 246 3) + 1)) (248 + (M2 246 3)) 0 (M2 246 4)) (248 + (M2 246 3)) 1 ((up2 (up2 M2 246 3 ((M2 246 3) + 1)) (248 + (M2 246 3)) 0 (M2 246 4)) 246 5)) 246 4) ho8.1 ho8.2
      refine a_aald (y := 6 + ((up2 (up2 (up2 M2 246 3 ((M2 246 3) + 1)) (248 + (M2 246 3)) 0 (M2 246 4)) (248 + (M2 246 3)) 1 ((up2 (up2 M2 246 3 ((M2 246 3) + 1)) (248 + (M2 246 3)) 0 (M2 246 4)) 246 5)) 246 4)) (pc := 75) dX5_addRide_75 (by decide) s0_5 ho8.1 ho8.2 (by omega) ?_
      refine a_aload_n (pc := 76) dX5_addRide_76 (by decide) rfl ?_
      refine a_getI (y := 6) (pc := 77) dX5_addRide_77 fl_RX5_34 (by decide) s0_246 (Or.inl rfl) rfl ?_
      have ho10 := h.1
      replace h := h.2
      refine a_iald (pc := 80) dX5_addRide_80 hr9.1 hr9.2 ho10.1 ho10.2 ?_
      refine a_iast (pc := 81) dX5_addRide_81 hr6.1 hr6.2 (by decide) (by decide) ?_
      refine a_aload_n (pc := 82) dX5_addRide_82 hr6.1 rfl ?_
      refine a_iconst (pc := 83) dX5_addRide_83 (by decide) ?_
      refine a_iload_n (pc := 84) dX5_addRide_84 rfl ?_
      refine a_iast (pc := 85) dX5_addRide_85 hr6.1 hr6.2 (by decide) (by decide) ?_
      refine a_aload_n (pc := 86) dX5_addRide_86 hr6.1 rfl ?_
      refine a_iconst (pc := 87) dX5_addRide_87 (by decide) ?_
      refine a_aload_n (pc := 88) dX5_addRide_88 (by decide) rfl ?_
      refine a_getR (y := 1) (pc := 89) dX5_addRide_89 fl_RX5_9 (by decide) s0_246 rfl rfl ?_
      refine a_aload_n (pc := 92) dX5_addRide_92 (by decide) rfl ?_
      refine a_getI (y := 4) (pc := 93) dX5_addRide_93 fl_RX5_28 (by decide) s0_246 (Or.inl rfl) rfl ?_
      refine a_aload_n (pc := 96) dX5_addRide_96 (by decide) rfl ?_
      refine a_getI (y := 5) (pc := 97) dX5_addRide_97 fl_RX5_31 (by decide) s0_246 (Or.inl rfl) rfl ?_
      refine a_aload_n (pc := 100) dX5_addRide_100 (by decide) rfl ?_
      refine a_getI (y := 6) (pc := 101) dX5_addRide_101 fl_RX5_34 (by decide) s0_246 (Or.inl rfl) rfl ?_
      refine p_inlV (Ex := _) (As := [(0, (up2 (up2 (up2 (up2 (up2 M2 246 3 ((M2 246 3) + 1)) (248 + (M2 246 3)) 0 (M2 246 4)) (248 + (M2 246 3)) 1 ((up2 (up2 M2 246 3 ((M2 246 3) + 1)) (248 + (M2 246 3)) 0 (M2 246 4)) 246 5)) (248 + (M2 246 3)) 2 ((up2 (up2 (up2 M2 246 3 ((M2 246 3) + 1)) (248 + (M2 246 3)) 0 (M2 246 4)) (248 + (M2 246 3)) 1 ((up2 (up2 M2 246 3 ((M2 246 3) + 1)) (248 + (M2 246 3)) 0 (M2 246 4)) 246 5)) (6 + ((up2 (up2 (up2 M2 246 3 ((M2 246 3) + 1)) (248 + (M2 246 3)) 0 (M2 246 4)) (248 + (M2 246 3)) 1 ((up2 (up2 M2 246 3 ((M2 246 3) + 1)) (248 + (M2 246 3)) 0 (M2 246 4)) 246 5)) 246 4)) ((up2 (up2 (up2 M2 246 3 ((M2 246 3) + 1)) (248 + (M2 246 3)) 0 (M2 246 4)) (248 + (M2 246 3)) 1 ((up2 (up2 M2 246 3 ((M2 246 3) + 1)) (248 + (M2 246 3)) 0 (M2 246 4)) 246 5)) 246 6))) (248 + (M2 246 3)) 3 l1) 246 4), (0, (up2 (up2 (up2 (up2 (up2 M2 246 3 ((M2 246 3) + 1)) (248 + (M2 246 3)) 0 (M2 246 4)) (248 + (M2 246 3)) 1 ((up2 (up2 M2 246 3 ((M2 246 3) + 1)) (248 + (M2 246 3)) 0 (M2 246 4)) 246 5)) (248 + (M2 246 3)) 2 ((up2 (up2 (up2 M2 246 3 ((M2 246 3) + 1)) (248 + (M2 246 3)) 0 (M2 246 4)) (248 + (M2 246 3)) 1 ((up2 (up2 M2 246 3 ((M2 246 3) + 1)) (248 + (M2 246 3)) 0 (M2 246 4)) 246 5)) (6 + ((up2 (up2 (up2 M2 246 3 ((M2 246 3) + 1)) (248 + (M2 246 3)) 0 (M2 246 4)) (248 + (M2 246 3)) 1 ((up2 (up2 M2 246 3 ((M2 246 3) + 1)) (248 + (M2 246 3)) 0 (M2 246 4)) 246 5)) 246 4)) ((up2 (up2 (up2 M2 246 3 ((M2 246 3) + 1)) (248 + (M2 246 3)) 0 (M2 246 4)) (248 + (M2 246 3)) 1 ((up2 (up2 M2 246 3 ((M2 246 3) + 1)) (248 + (M2 246 3)) 0 (M2 246 4)) 246 5)) 246 6))) (248 + (M2 246 3)) 3 l1) 246 5), (0, (up2 (up2 (up2 (up2 (up2 M2 246 3 ((M2 246 3) + 1)) (248 + (M2 246 3)) 0 (M2 246 4)) (248 + (M2 246 3)) 1 ((up2 (up2 M2 246 3 ((M2 246 3) + 1)) (248 + (M2 246 3)) 0 (M2 246 4)) 246 5)) (248 + (M2 246 3)) 2 ((up2 (up2 (up2 M2 246 3 ((M2 246 3) + 1)) (248 + (M2 246 3)) 0 (M2 246 4)) (248 + (M2 246 3)) 1 ((up2 (up2 M2 246 3 ((M2 246 3) + 1)) (248 + (M2 246 3)) 0 (M2 246 4)) 246 5)) (6 + ((up2 (up2 (up2 M2 246 3 ((M2 246 3) + 1)) (248 + (M2 246 3)) 0 (M2 246 4)) (248 + (M2 246 3)) 1 ((up2 (up2 M2 246 3 ((M2 246 3) + 1)) (248 + (M2 246 3)) 0 (M2 246 4)) 246 5)) 246 4)) ((up2 (up2 (up2 M2 246 3 ((M2 246 3) + 1)) (248 + (M2 246 3)) 0 (M2 246 4)) (248 + (M2 246 3)) 1 ((up2 (up2 M2 246 3 ((M2 246 3) + 1)) (248 + (M2 246 3)) 0 (M2 246 4)) 246 5)) 246 6))) (248 + (M2 246 3)) 3 l1) 246 6)]) (st := [(0, 4), (2, 248 + (M2 246 3))]) (st1 := fun r => [(0, r), (0, 4), (2, 248 + (M2 246 3))])  (pc := 104) dX5_addRide_104 ml_RX5_75 (by decide) s0_1 rfl (by decide) (Nat.le_of_ble_eq_true rfl) rfl (fun _ => rfl) (by decide) (by decide) (Nat.le_of_ble_eq_true rfl) rfl ?_
      refine a_aload_n (pc := 0) dX3_minuteOf_0 (by decide) rfl ?_
      refine a_getR (y := 14) (pc := 1) dX3_minuteOf_1 fl_RX3_30 (by decide) s0_1 rfl rfl ?_
      refine a_iload_n (pc := 4) dX3_minuteOf_4 rfl ?_
      refine a_iload_n (pc := 5) dX3_minuteOf_5 rfl ?_
      refine p_inlS (Ex := _) (As := [(0, (up2 (up2 (up2 (up2 (up2 M2 246 3 ((M2 246 3) + 1)) (248 + (M2 246 3)) 0 (M2 246 4)) (248 + (M2 246 3)) 1 ((up2 (up2 M2 246 3 ((M2 246 3) + 1)) (248 + (M2 246 3)) 0 (M2 246 4)) 246 5)) (248 + (M2 246 3)) 2 ((up2 (up2 (up2 M2 246 3 ((M2 246 3) + 1)) (248 + (M2 246 3)) 0 (M2 246 4)) (248 + (M2 246 3)) 1 ((up2 (up2 M2 246 3 ((M2 246 3) + 1)) (248 + (M2 246 3)) 0 (M2 246 4)) 246 5)) (6 + ((up2 (up2 (up2 M2 246 3 ((M2 246 3) + 1)) (248 + (M2 246 3)) 0 (M2 246 4)) (248 + (M2 246 3)) 1 ((up2 (up2 M2 246 3 ((M2 246 3) + 1)) (248 + (M2 246 3)) 0 (M2 246 4)) 246 5)) 246 4)) ((up2 (up2 (up2 M2 246 3 ((M2 246 3) + 1)) (248 + (M2 246 3)) 0 (M2 246 4)) (248 + (M2 246 3)) 1 ((up2 (up2 M2 246 3 ((M2 246 3) + 1)) (248 + (M2 246 3)) 0 (M2 246 4)) 246 5)) 246 6))) (248 + (M2 246 3)) 3 l1) 246 4), (0, (up2 (up2 (up2 (up2 (up2 M2 246 3 ((M2 246 3) + 1)) (248 + (M2 246 3)) 0 (M2 246 4)) (248 + (M2 246 3)) 1 ((up2 (up2 M2 246 3 ((M2 246 3) + 1)) (248 + (M2 246 3)) 0 (M2 246 4)) 246 5)) (248 + (M2 246 3)) 2 ((up2 (up2 (up2 M2 246 3 ((M2 246 3) + 1)) (248 + (M2 246 3)) 0 (M2 246 4)) (248 + (M2 246 3)) 1 ((up2 (up2 M2 246 3 ((M2 246 3) + 1)) (248 + (M2 246 3)) 0 (M2 246 4)) 246 5)) (6 + ((up2 (up2 (up2 M2 246 3 ((M2 246 3) + 1)) (248 + (M2 246 3)) 0 (M2 246 4)) (248 + (M2 246 3)) 1 ((up2 (up2 M2 246 3 ((M2 246 3) + 1)) (248 + (M2 246 3)) 0 (M2 246 4)) 246 5)) 246 4)) ((up2 (up2 (up2 M2 246 3 ((M2 246 3) + 1)) (248 + (M2 246 3)) 0 (M2 246 4)) (248 + (M2 246 3)) 1 ((up2 (up2 M2 246 3 ((M2 246 3) + 1)) (248 + (M2 246 3)) 0 (M2 246 4)) 246 5)) 246 6))) (248 + (M2 246 3)) 3 l1) 246 5)]) (st := [(2, 14)]) (st1 := fun r => [(0, r), (2, 14)])  (pc := 6) dX3_minuteOf_6 ml_RX3_49 (by decide) (Nat.le_of_ble_eq_true rfl) rfl (fun _ => rfl) (by decide) (by decide) (Nat.le_of_ble_eq_true rfl) rfl ?_
      refine a_iload_n (pc := 0) dX3_rowOf_0 rfl ?_
      refine a_bipush (pc := 1) dX3_rowOf_1 (by decide) (by decide +kernel) ?_
      have ho11 := h.1
      replace h := h.2
      refine a_imul (pc := 3) dX3_rowOf_3 ho11 ?_
      refine a_iload_n (pc := 4) dX3_rowOf_4 rfl ?_
      have ho12 := h.1
      replace h := h.2
      refine a_iadd (pc := 5) dX3_rowOf_5 ho12 ?_
      refine a_ireti (pc := 6) dX3_rowOf_6 rfl rfl (Nat.le_of_ble_eq_true rfl) ⟨rfl, ?_⟩
      have ho13 := h.1
      replace h := h.2
      have hr14 := rw_14 ((((up2 (up2 (up2 (up2 (up2 M2 246 3 ((M2 246 3) + 1)) (248 + (M2 246 3)) 0 (M2 246 4)) (248 + (M2 246 3)) 1 ((up2 (up2 M2 246 3 ((M2 246 3) + 1)) (248 + (M2 246 3)) 0 (M2 246 4)) 246 5)) (248 + (M2 246 3)) 2 ((up2 (up2 (up2 M2 246 3 ((M2 246 3) + 1)) (248 + (M2 246 3)) 0 (M2 246 4)) (248 + (M2 246 3)) 1 ((up2 (up2 M2 246 3 ((M2 246 3) + 1)) (248 + (M2 246 3)) 0 (M2 246 4)) 246 5)) (6 + ((up2 (up2 (up2 M2 246 3 ((M2 246 3) + 1)) (248 + (M2 246 3)) 0 (M2 246 4)) (248 + (M2 246 3)) 1 ((up2 (up2 M2 246 3 ((M2 246 3) + 1)) (248 + (M2 246 3)) 0 (M2 246 4)) 246 5)) 246 4)) ((up2 (up2 (up2 M2 246 3 ((M2 246 3) + 1)) (248 + (M2 246 3)) 0 (M2 246 4)) (248 + (M2 246 3)) 1 ((up2 (up2 M2 246 3 ((M2 246 3) + 1)) (248 + (M2 246 3)) 0 (M2 246 4)) 246 5)) 246 6))) (248 + (M2 246 3)) 3 l1) 246 4) * 6) + ((up2 (up2 (up2 (up2 (up2 M2 246 3 ((M2 246 3) + 1)) (248 + (M2 246 3)) 0 (M2 246 4)) (248 + (M2 246 3)) 1 ((up2 (up2 M2 246 3 ((M2 246 3) + 1)) (248 + (M2 246 3)) 0 (M2 246 4)) 246 5)) (248 + (M2 246 3)) 2 ((up2 (up2 (up2 M2 246 3 ((M2 246 3) + 1)) (248 + (M2 246 3)) 0 (M2 246 4)) (248 + (M2 246 3)) 1 ((up2 (up2 M2 246 3 ((M2 246 3) + 1)) (248 + (M2 246 3)) 0 (M2 246 4)) 246 5)) (6 + ((up2 (up2 (up2 M2 246 3 ((M2 246 3) + 1)) (248 + (M2 246 3)) 0 (M2 246 4)) (248 + (M2 246 3)) 1 ((up2 (up2 M2 246 3 ((M2 246 3) + 1)) (248 + (M2 246 3)) 0 (M2 246 4)) 246 5)) 246 4)) ((up2 (up2 (up2 M2 246 3 ((M2 246 3) + 1)) (248 + (M2 246 3)) 0 (M2 246 4)) (248 + (M2 246 3)) 1 ((up2 (up2 M2 246 3 ((M2 246 3) + 1)) (248 + (M2 246 3)) 0 (M2 246 4)) 246 5)) 246 6))) (248 + (M2 246 3)) 3 l1) 246 5)) ho13.1 ho13.2
      refine a_aald (y := 15 + ((((up2 (up2 (up2 (up2 (up2 M2 246 3 ((M2 246 3) + 1)) (248 + (M2 246 3)) 0 (M2 246 4)) (248 + (M2 246 3)) 1 ((up2 (up2 M2 246 3 ((M2 246 3) + 1)) (248 + (M2 246 3)) 0 (M2 246 4)) 246 5)) (248 + (M2 246 3)) 2 ((up2 (up2 (up2 M2 246 3 ((M2 246 3) + 1)) (248 + (M2 246 3)) 0 (M2 246 4)) (248 + (M2 246 3)) 1 ((up2 (up2 M2 246 3 ((M2 246 3) + 1)) (248 + (M2 246 3)) 0 (M2 246 4)) 246 5)) (6 + ((up2 (up2 (up2 M2 246 3 ((M2 246 3) + 1)) (248 + (M2 246 3)) 0 (M2 246 4)) (248 + (M2 246 3)) 1 ((up2 (up2 M2 246 3 ((M2 246 3) + 1)) (248 + (M2 246 3)) 0 (M2 246 4)) 246 5)) 246 4)) ((up2 (up2 (up2 M2 246 3 ((M2 246 3) + 1)) (248 + (M2 246 3)) 0 (M2 246 4)) (248 + (M2 246 3)) 1 ((up2 (up2 M2 246 3 ((M2 246 3) + 1)) (248 + (M2 246 3)) 0 (M2 246 4)) 246 5)) 246 6))) (248 + (M2 246 3)) 3 l1) 246 4) * 6) + ((up2 (up2 (up2 (up2 (up2 M2 246 3 ((M2 246 3) + 1)) (248 + (M2 246 3)) 0 (M2 246 4)) (248 + (M2 246 3)) 1 ((up2 (up2 M2 246 3 ((M2 246 3) + 1)) (248 + (M2 246 3)) 0 (M2 246 4)) 246 5)) (248 + (M2 246 3)) 2 ((up2 (up2 (up2 M2 246 3 ((M2 246 3) + 1)) (248 + (M2 246 3)) 0 (M2 246 4)) (248 + (M2 246 3)) 1 ((up2 (up2 M2 246 3 ((M2 246 3) + 1)) (248 + (M2 246 3)) 0 (M2 246 4)) 246 5)) (6 + ((up2 (up2 (up2 M2 246 3 ((M2 246 3) + 1)) (248 + (M2 246 3)) 0 (M2 246 4)) (248 + (M2 246 3)) 1 ((up2 (up2 M2 246 3 ((M2 246 3) + 1)) (248 + (M2 246 3)) 0 (M2 246 4)) 246 5)) 246 4)) ((up2 (up2 (up2 M2 246 3 ((M2 246 3) + 1)) (248 + (M2 246 3)) 0 (M2 246 4)) (248 + (M2 246 3)) 1 ((up2 (up2 M2 246 3 ((M2 246 3) + 1)) (248 + (M2 246 3)) 0 (M2 246 4)) 246 5)) 246 6))) (248 + (M2 246 3)) 3 l1) 246 5))) (pc := 9) dX3_minuteOf_9 (by decide) s0_14 ho13.1 ho13.2 (by omega) ?_
      refine a_iload_n (pc := 10) dX3_minuteOf_10 rfl ?_
      have ho15 := h.1
      replace h := h.2
      refine a_iald (pc := 11) dX3_minuteOf_11 hr14.1 hr14.2 ho15.1 ho15.2 ?_
      refine a_ireti (pc := 12) dX3_minuteOf_12 rfl rfl (Nat.le_of_ble_eq_true rfl) ⟨rfl, ?_⟩
      refine a_iast (pc := 107) dX5_addRide_107 hr6.1 hr6.2 (by decide) (by decide) ?_
      refine a_aload_n (pc := 108) dX5_addRide_108 hr6.1 rfl ?_
      refine a_iconst (pc := 109) dX5_addRide_109 (by decide) ?_
      refine a_aload_n (pc := 110) dX5_addRide_110 (by decide) rfl ?_
      refine a_getR (y := 1) (pc := 111) dX5_addRide_111 fl_RX5_9 (by decide) s0_246 rfl rfl ?_
      refine a_aload_n (pc := 114) dX5_addRide_114 (by decide) rfl ?_
      refine a_getI (y := 4) (pc := 115) dX5_addRide_115 fl_RX5_28 (by decide) s0_246 (Or.inl rfl) rfl ?_
      refine a_aload_n (pc := 118) dX5_addRide_118 (by decide) rfl ?_
      refine a_getI (y := 5) (pc := 119) dX5_addRide_119 fl_RX5_31 (by decide) s0_246 (Or.inl rfl) rfl ?_
      refine a_iload_n (pc := 122) dX5_addRide_122 rfl ?_
      refine p_inlV (Ex := _) (As := [(0, (up2 (up2 (up2 (up2 (up2 (up2 M2 246 3 ((M2 246 3) + 1)) (248 + (M2 246 3)) 0 (M2 246 4)) (248 + (M2 246 3)) 1 ((up2 (up2 M2 246 3 ((M2 246 3) + 1)) (248 + (M2 246 3)) 0 (M2 246 4)) 246 5)) (248 + (M2 246 3)) 2 ((up2 (up2 (up2 M2 246 3 ((M2 246 3) + 1)) (248 + (M2 246 3)) 0 (M2 246 4)) (248 + (M2 246 3)) 1 ((up2 (up2 M2 246 3 ((M2 246 3) + 1)) (248 + (M2 246 3)) 0 (M2 246 4)) 246 5)) (6 + ((up2 (up2 (up2 M2 246 3 ((M2 246 3) + 1)) (248 + (M2 246 3)) 0 (M2 246 4)) (248 + (M2 246 3)) 1 ((up2 (up2 M2 246 3 ((M2 246 3) + 1)) (248 + (M2 246 3)) 0 (M2 246 4)) 246 5)) 246 4)) ((up2 (up2 (up2 M2 246 3 ((M2 246 3) + 1)) (248 + (M2 246 3)) 0 (M2 246 4)) (248 + (M2 246 3)) 1 ((up2 (up2 M2 246 3 ((M2 246 3) + 1)) (248 + (M2 246 3)) 0 (M2 246 4)) 246 5)) 246 6))) (248 + (M2 246 3)) 3 l1) (248 + (M2 246 3)) 4 ((up2 (up2 (up2 (up2 (up2 M2 246 3 ((M2 246 3) + 1)) (248 + (M2 246 3)) 0 (M2 246 4)) (248 + (M2 246 3)) 1 ((up2 (up2 M2 246 3 ((M2 246 3) + 1)) (248 + (M2 246 3)) 0 (M2 246 4)) 246 5)) (248 + (M2 246 3)) 2 ((up2 (up2 (up2 M2 246 3 ((M2 246 3) + 1)) (248 + (M2 246 3)) 0 (M2 246 4)) (248 + (M2 246 3)) 1 ((up2 (up2 M2 246 3 ((M2 246 3) + 1)) (248 + (M2 246 3)) 0 (M2 246 4)) 246 5)) (6 + ((up2 (up2 (up2 M2 246 3 ((M2 246 3) + 1)) (248 + (M2 246 3)) 0 (M2 246 4)) (248 + (M2 246 3)) 1 ((up2 (up2 M2 246 3 ((M2 246 3) + 1)) (248 + (M2 246 3)) 0 (M2 246 4)) 246 5)) 246 4)) ((up2 (up2 (up2 M2 246 3 ((M2 246 3) + 1)) (248 + (M2 246 3)) 0 (M2 246 4)) (248 + (M2 246 3)) 1 ((up2 (up2 M2 246 3 ((M2 246 3) + 1)) (248 + (M2 246 3)) 0 (M2 246 4)) 246 5)) 246 6))) (248 + (M2 246 3)) 3 l1) (15 + ((((up2 (up2 (up2 (up2 (up2 M2 246 3 ((M2 246 3) + 1)) (248 + (M2 246 3)) 0 (M2 246 4)) (248 + (M2 246 3)) 1 ((up2 (up2 M2 246 3 ((M2 246 3) + 1)) (248 + (M2 246 3)) 0 (M2 246 4)) 246 5)) (248 + (M2 246 3)) 2 ((up2 (up2 (up2 M2 246 3 ((M2 246 3) + 1)) (248 + (M2 246 3)) 0 (M2 246 4)) (248 + (M2 246 3)) 1 ((up2 (up2 M2 246 3 ((M2 246 3) + 1)) (248 + (M2 246 3)) 0 (M2 246 4)) 246 5)) (6 + ((up2 (up2 (up2 M2 246 3 ((M2 246 3) + 1)) (248 + (M2 246 3)) 0 (M2 246 4)) (248 + (M2 246 3)) 1 ((up2 (up2 M2 246 3 ((M2 246 3) + 1)) (248 + (M2 246 3)) 0 (M2 246 4)) 246 5)) 246 4)) ((up2 (up2 (up2 M2 246 3 ((M2 246 3) + 1)) (248 + (M2 246 3)) 0 (M2 246 4)) (248 + (M2 246 3)) 1 ((up2 (up2 M2 246 3 ((M2 246 3) + 1)) (248 + (M2 246 3)) 0 (M2 246 4)) 246 5)) 246 6))) (248 + (M2 246 3)) 3 l1) 246 4) * 6) + ((up2 (up2 (up2 (up2 (up2 M2 246 3 ((M2 246 3) + 1)) (248 + (M2 246 3)) 0 (M2 246 4)) (248 + (M2 246 3)) 1 ((up2 (up2 M2 246 3 ((M2 246 3) + 1)) (248 + (M2 246 3)) 0 (M2 246 4)) 246 5)) (248 + (M2 246 3)) 2 ((up2 (up2 (up2 M2 246 3 ((M2 246 3) + 1)) (248 + (M2 246 3)) 0 (M2 246 4)) (248 + (M2 246 3)) 1 ((up2 (up2 M2 246 3 ((M2 246 3) + 1)) (248 + (M2 246 3)) 0 (M2 246 4)) 246 5)) (6 + ((up2 (up2 (up2 M2 246 3 ((M2 246 3) + 1)) (248 + (M2 246 3)) 0 (M2 246 4)) (248 + (M2 246 3)) 1 ((up2 (up2 M2 246 3 ((M2 246 3) + 1)) (248 + (M2 246 3)) 0 (M2 246 4)) 246 5)) 246 4)) ((up2 (up2 (up2 M2 246 3 ((M2 246 3) + 1)) (248 + (M2 246 3)) 0 (M2 246 4)) (248 + (M2 246 3)) 1 ((up2 (up2 M2 246 3 ((M2 246 3) + 1)) (248 + (M2 246 3)) 0 (M2 246 4)) 246 5)) 246 6))) (248 + (M2 246 3)) 3 l1) 246 5))) ((up2 (up2 (up2 (up2 (up2 M2 246 3 ((M2 246 3) + 1)) (248 + (M2 246 3)) 0 (M2 246 4)) (248 + (M2 246 3)) 1 ((up2 (up2 M2 246 3 ((M2 246 3) + 1)) (248 + (M2 246 3)) 0 (M2 246 4)) 246 5)) (248 + (M2 246 3)) 2 ((up2 (up2 (up2 M2 246 3 ((M2 246 3) + 1)) (248 + (M2 246 3)) 0 (M2 246 4)) (248 + (M2 246 3)) 1 ((up2 (up2 M2 246 3 ((M2 246 3) + 1)) (248 + (M2 246 3)) 0 (M2 246 4)) 246 5)) (6 + ((up2 (up2 (up2 M2 246 3 ((M2 246 3) + 1)) (248 + (M2 246 3)) 0 (M2 246 4)) (248 + (M2 246 3)) 1 ((up2 (up2 M2 246 3 ((M2 246 3) + 1)) (248 + (M2 246 3)) 0 (M2 246 4)) 246 5)) 246 4)) ((up2 (up2 (up2 M2 246 3 ((M2 246 3) + 1)) (248 + (M2 246 3)) 0 (M2 246 4)) (248 + (M2 246 3)) 1 ((up2 (up2 M2 246 3 ((M2 246 3) + 1)) (248 + (M2 246 3)) 0 (M2 246 4)) 246 5)) 246 6))) (248 + (M2 246 3)) 3 l1) 246 6))) 246 4), (0, (up2 (up2 (up2 (up2 (up2 (up2 M2 246 3 ((M2 246 3) + 1)) (248 + (M2 246 3)) 0 (M2 246 4)) (248 + (M2 246 3)) 1 ((up2 (up2 M2 246 3 ((M2 246 3) + 1)) (248 + (M2 246 3)) 0 (M2 246 4)) 246 5)) (248 + (M2 246 3)) 2 ((up2 (up2 (up2 M2 246 3 ((M2 246 3) + 1)) (248 + (M2 246 3)) 0 (M2 246 4)) (248 + (M2 246 3)) 1 ((up2 (up2 M2 246 3 ((M2 246 3) + 1)) (248 + (M2 246 3)) 0 (M2 246 4)) 246 5)) (6 + ((up2 (up2 (up2 M2 246 3 ((M2 246 3) + 1)) (248 + (M2 246 3)) 0 (M2 246 4)) (248 + (M2 246 3)) 1 ((up2 (up2 M2 246 3 ((M2 246 3) + 1)) (248 + (M2 246 3)) 0 (M2 246 4)) 246 5)) 246 4)) ((up2 (up2 (up2 M2 246 3 ((M2 246 3) + 1)) (248 + (M2 246 3)) 0 (M2 246 4)) (248 + (M2 246 3)) 1 ((up2 (up2 M2 246 3 ((M2 246 3) + 1)) (248 + (M2 246 3)) 0 (M2 246 4)) 246 5)) 246 6))) (248 + (M2 246 3)) 3 l1) (248 + (M2 246 3)) 4 ((up2 (up2 (up2 (up2 (up2 M2 246 3 ((M2 246 3) + 1)) (248 + (M2 246 3)) 0 (M2 246 4)) (248 + (M2 246 3)) 1 ((up2 (up2 M2 246 3 ((M2 246 3) + 1)) (248 + (M2 246 3)) 0 (M2 246 4)) 246 5)) (248 + (M2 246 3)) 2 ((up2 (up2 (up2 M2 246 3 ((M2 246 3) + 1)) (248 + (M2 246 3)) 0 (M2 246 4)) (248 + (M2 246 3)) 1 ((up2 (up2 M2 246 3 ((M2 246 3) + 1)) (248 + (M2 246 3)) 0 (M2 246 4)) 246 5)) (6 + ((up2 (up2 (up2 M2 246 3 ((M2 246 3) + 1)) (248 + (M2 246 3)) 0 (M2 246 4)) (248 + (M2 246 3)) 1 ((up2 (up2 M2 246 3 ((M2 246 3) + 1)) (248 + (M2 246 3)) 0 (M2 246 4)) 246 5)) 246 4)) ((up2 (up2 (up2 M2 246 3 ((M2 246 3) + 1)) (248 + (M2 246 3)) 0 (M2 246 4)) (248 + (M2 246 3)) 1 ((up2 (up2 M2 246 3 ((M2 246 3) + 1)) (248 + (M2 246 3)) 0 (M2 246 4)) 246 5)) 246 6))) (248 + (M2 246 3)) 3 l1) (15 + ((((up2 (up2 (up2 (up2 (up2 M2 246 3 ((M2 246 3) + 1)) (248 + (M2 246 3)) 0 (M2 246 4)) (248 + (M2 246 3)) 1 ((up2 (up2 M2 246 3 ((M2 246 3) + 1)) (248 + (M2 246 3)) 0 (M2 246 4)) 246 5)) (248 + (M2 246 3)) 2 ((up2 (up2 (up2 M2 246 3 ((M2 246 3) + 1)) (248 + (M2 246 3)) 0 (M2 246 4)) (248 + (M2 246 3)) 1 ((up2 (up2 M2 246 3 ((M2 246 3) + 1)) (248 + (M2 246 3)) 0 (M2 246 4)) 246 5)) (6 + ((up2 (up2 (up2 M2 246 3 ((M2 246 3) + 1)) (248 + (M2 246 3)) 0 (M2 246 4)) (248 + (M2 246 3)) 1 ((up2 (up2 M2 246 3 ((M2 246 3) + 1)) (248 + (M2 246 3)) 0 (M2 246 4)) 246 5)) 246 4)) ((up2 (up2 (up2 M2 246 3 ((M2 246 3) + 1)) (248 + (M2 246 3)) 0 (M2 246 4)) (248 + (M2 246 3)) 1 ((up2 (up2 M2 246 3 ((M2 246 3) + 1)) (248 + (M2 246 3)) 0 (M2 246 4)) 246 5)) 246 6))) (248 + (M2 246 3)) 3 l1) 246 4) * 6) + ((up2 (up2 (up2 (up2 (up2 M2 246 3 ((M2 246 3) + 1)) (248 + (M2 246 3)) 0 (M2 246 4)) (248 + (M2 246 3)) 1 ((up2 (up2 M2 246 3 ((M2 246 3) + 1)) (248 + (M2 246 3)) 0 (M2 246 4)) 246 5)) (248 + (M2 246 3)) 2 ((up2 (up2 (up2 M2 246 3 ((M2 246 3) + 1)) (248 + (M2 246 3)) 0 (M2 246 4)) (248 + (M2 246 3)) 1 ((up2 (up2 M2 246 3 ((M2 246 3) + 1)) (248 + (M2 246 3)) 0 (M2 246 4)) 246 5)) (6 + ((up2 (up2 (up2 M2 246 3 ((M2 246 3) + 1)) (248 + (M2 246 3)) 0 (M2 246 4)) (248 + (M2 246 3)) 1 ((up2 (up2 M2 246 3 ((M2 246 3) + 1)) (248 + (M2 246 3)) 0 (M2 246 4)) 246 5)) 246 4)) ((up2 (up2 (up2 M2 246 3 ((M2 246 3) + 1)) (248 + (M2 246 3)) 0 (M2 246 4)) (248 + (M2 246 3)) 1 ((up2 (up2 M2 246 3 ((M2 246 3) + 1)) (248 + (M2 246 3)) 0 (M2 246 4)) 246 5)) 246 6))) (248 + (M2 246 3)) 3 l1) 246 5))) ((up2 (up2 (up2 (up2 (up2 M2 246 3 ((M2 246 3) + 1)) (248 + (M2 246 3)) 0 (M2 246 4)) (248 + (M2 246 3)) 1 ((up2 (up2 M2 246 3 ((M2 246 3) + 1)) (248 + (M2 246 3)) 0 (M2 246 4)) 246 5)) (248 + (M2 246 3)) 2 ((up2 (up2 (up2 M2 246 3 ((M2 246 3) + 1)) (248 + (M2 246 3)) 0 (M2 246 4)) (248 + (M2 246 3)) 1 ((up2 (up2 M2 246 3 ((M2 246 3) + 1)) (248 + (M2 246 3)) 0 (M2 246 4)) 246 5)) (6 + ((up2 (up2 (up2 M2 246 3 ((M2 246 3) + 1)) (248 + (M2 246 3)) 0 (M2 246 4)) (248 + (M2 246 3)) 1 ((up2 (up2 M2 246 3 ((M2 246 3) + 1)) (248 + (M2 246 3)) 0 (M2 246 4)) 246 5)) 246 4)) ((up2 (up2 (up2 M2 246 3 ((M2 246 3) + 1)) (248 + (M2 246 3)) 0 (M2 246 4)) (248 + (M2 246 3)) 1 ((up2 (up2 M2 246 3 ((M2 246 3) + 1)) (248 + (M2 246 3)) 0 (M2 246 4)) 246 5)) 246 6))) (248 + (M2 246 3)) 3 l1) 246 6))) 246 5), (0, r1)]) (st := [(0, 5), (2, 248 + (M2 246 3))]) (st1 := fun r => [(0, r), (0, 5), (2, 248 + (M2 246 3))])  (pc := 123) dX5_addRide_123 ml_RX5_75 (by decide) s0_1 rfl (by decide) (Nat.le_of_ble_eq_true rfl) rfl (fun _ => rfl) (by decide) (by decide) (Nat.le_of_ble_eq_true rfl) rfl ?_
      refine a_aload_n (pc := 0) dX3_minuteOf_0 (by decide) rfl ?_
      refine a_getR (y := 14) (pc := 1) dX3_minuteOf_1 fl_RX3_30 (by decide) s0_1 rfl rfl ?_
      refine a_iload_n (pc := 4) dX3_minuteOf_4 rfl ?_
      refine a_iload_n (pc := 5) dX3_minuteOf_5 rfl ?_
      refine p_inlS (Ex := _) (As := [(0, (up2 (up2 (up2 (up2 (up2 (up2 M2 246 3 ((M2 246 3) + 1)) (248 + (M2 246 3)) 0 (M2 246 4)) (248 + (M2 246 3)) 1 ((up2 (up2 M2 246 3 ((M2 246 3) + 1)) (248 + (M2 246 3)) 0 (M2 246 4)) 246 5)) (248 + (M2 246 3)) 2 ((up2 (up2 (up2 M2 246 3 ((M2 246 3) + 1)) (248 + (M2 246 3)) 0 (M2 246 4)) (248 + (M2 246 3)) 1 ((up2 (up2 M2 246 3 ((M2 246 3) + 1)) (248 + (M2 246 3)) 0 (M2 246 4)) 246 5)) (6 + ((up2 (up2 (up2 M2 246 3 ((M2 246 3) + 1)) (248 + (M2 246 3)) 0 (M2 246 4)) (248 + (M2 246 3)) 1 ((up2 (up2 M2 246 3 ((M2 246 3) + 1)) (248 + (M2 246 3)) 0 (M2 246 4)) 246 5)) 246 4)) ((up2 (up2 (up2 M2 246 3 ((M2 246 3) + 1)) (248 + (M2 246 3)) 0 (M2 246 4)) (248 + (M2 246 3)) 1 ((up2 (up2 M2 246 3 ((M2 246 3) + 1)) (248 + (M2 246 3)) 0 (M2 246 4)) 246 5)) 246 6))) (248 + (M2 246 3)) 3 l1) (248 + (M2 246 3)) 4 ((up2 (up2 (up2 (up2 (up2 M2 246 3 ((M2 246 3) + 1)) (248 + (M2 246 3)) 0 (M2 246 4)) (248 + (M2 246 3)) 1 ((up2 (up2 M2 246 3 ((M2 246 3) + 1)) (248 + (M2 246 3)) 0 (M2 246 4)) 246 5)) (248 + (M2 246 3)) 2 ((up2 (up2 (up2 M2 246 3 ((M2 246 3) + 1)) (248 + (M2 246 3)) 0 (M2 246 4)) (248 + (M2 246 3)) 1 ((up2 (up2 M2 246 3 ((M2 246 3) + 1)) (248 + (M2 246 3)) 0 (M2 246 4)) 246 5)) (6 + ((up2 (up2 (up2 M2 246 3 ((M2 246 3) + 1)) (248 + (M2 246 3)) 0 (M2 246 4)) (248 + (M2 246 3)) 1 ((up2 (up2 M2 246 3 ((M2 246 3) + 1)) (248 + (M2 246 3)) 0 (M2 246 4)) 246 5)) 246 4)) ((up2 (up2 (up2 M2 246 3 ((M2 246 3) + 1)) (248 + (M2 246 3)) 0 (M2 246 4)) (248 + (M2 246 3)) 1 ((up2 (up2 M2 246 3 ((M2 246 3) + 1)) (248 + (M2 246 3)) 0 (M2 246 4)) 246 5)) 246 6))) (248 + (M2 246 3)) 3 l1) (15 + ((((up2 (up2 (up2 (up2 (up2 M2 246 3 ((M2 246 3) + 1)) (248 + (M2 246 3)) 0 (M2 246 4)) (248 + (M2 246 3)) 1 ((up2 (up2 M2 246 3 ((M2 246 3) + 1)) (248 + (M2 246 3)) 0 (M2 246 4)) 246 5)) (248 + (M2 246 3)) 2 ((up2 (up2 (up2 M2 246 3 ((M2 246 3) + 1)) (248 + (M2 246 3)) 0 (M2 246 4)) (248 + (M2 246 3)) 1 ((up2 (up2 M2 246 3 ((M2 246 3) + 1)) (248 + (M2 246 3)) 0 (M2 246 4)) 246 5)) (6 + ((up2 (up2 (up2 M2 246 3 ((M2 246 3) + 1)) (248 + (M2 246 3)) 0 (M2 246 4)) (248 + (M2 246 3)) 1 ((up2 (up2 M2 246 3 ((M2 246 3) + 1)) (248 + (M2 246 3)) 0 (M2 246 4)) 246 5)) 246 4)) ((up2 (up2 (up2 M2 246 3 ((M2 246 3) + 1)) (248 + (M2 246 3)) 0 (M2 246 4)) (248 + (M2 246 3)) 1 ((up2 (up2 M2 246 3 ((M2 246 3) + 1)) (248 + (M2 246 3)) 0 (M2 246 4)) 246 5)) 246 6))) (248 + (M2 246 3)) 3 l1) 246 4) * 6) + ((up2 (up2 (up2 (up2 (up2 M2 246 3 ((M2 246 3) + 1)) (248 + (M2 246 3)) 0 (M2 246 4)) (248 + (M2 246 3)) 1 ((up2 (up2 M2 246 3 ((M2 246 3) + 1)) (248 + (M2 246 3)) 0 (M2 246 4)) 246 5)) (248 + (M2 246 3)) 2 ((up2 (up2 (up2 M2 246 3 ((M2 246 3) + 1)) (248 + (M2 246 3)) 0 (M2 246 4)) (248 + (M2 246 3)) 1 ((up2 (up2 M2 246 3 ((M2 246 3) + 1)) (248 + (M2 246 3)) 0 (M2 246 4)) 246 5)) (6 + ((up2 (up2 (up2 M2 246 3 ((M2 246 3) + 1)) (248 + (M2 246 3)) 0 (M2 246 4)) (248 + (M2 246 3)) 1 ((up2 (up2 M2 246 3 ((M2 246 3) + 1)) (248 + (M2 246 3)) 0 (M2 246 4)) 246 5)) 246 4)) ((up2 (up2 (up2 M2 246 3 ((M2 246 3) + 1)) (248 + (M2 246 3)) 0 (M2 246 4)) (248 + (M2 246 3)) 1 ((up2 (up2 M2 246 3 ((M2 246 3) + 1)) (248 + (M2 246 3)) 0 (M2 246 4)) 246 5)) 246 6))) (248 + (M2 246 3)) 3 l1) 246 5))) ((up2 (up2 (up2 (up2 (up2 M2 246 3 ((M2 246 3) + 1)) (248 + (M2 246 3)) 0 (M2 246 4)) (248 + (M2 246 3)) 1 ((up2 (up2 M2 246 3 ((M2 246 3) + 1)) (248 + (M2 246 3)) 0 (M2 246 4)) 246 5)) (248 + (M2 246 3)) 2 ((up2 (up2 (up2 M2 246 3 ((M2 246 3) + 1)) (248 + (M2 246 3)) 0 (M2 246 4)) (248 + (M2 246 3)) 1 ((up2 (up2 M2 246 3 ((M2 246 3) + 1)) (248 + (M2 246 3)) 0 (M2 246 4)) 246 5)) (6 + ((up2 (up2 (up2 M2 246 3 ((M2 246 3) + 1)) (248 + (M2 246 3)) 0 (M2 246 4)) (248 + (M2 246 3)) 1 ((up2 (up2 M2 246 3 ((M2 246 3) + 1)) (248 + (M2 246 3)) 0 (M2 246 4)) 246 5)) 246 4)) ((up2 (up2 (up2 M2 246 3 ((M2 246 3) + 1)) (248 + (M2 246 3)) 0 (M2 246 4)) (248 + (M2 246 3)) 1 ((up2 (up2 M2 246 3 ((M2 246 3) + 1)) (248 + (M2 246 3)) 0 (M2 246 4)) 246 5)) 246 6))) (248 + (M2 246 3)) 3 l1) 246 6))) 246 4), (0, (up2 (up2 (up2 (up2 (up2 (up2 M2 246 3 ((M2 246 3) + 1)) (248 + (M2 246 3)) 0 (M2 246 4)) (248 + (M2 246 3)) 1 ((up2 (up2 M2 246 3 ((M2 246 3) + 1)) (248 + (M2 246 3)) 0 (M2 246 4)) 246 5)) (248 + (M2 246 3)) 2 ((up2 (up2 (up2 M2 246 3 ((M2 246 3) + 1)) (248 + (M2 246 3)) 0 (M2 246 4)) (248 + (M2 246 3)) 1 ((up2 (up2 M2 246 3 ((M2 246 3) + 1)) (248 + (M2 246 3)) 0 (M2 246 4)) 246 5)) (6 + ((up2 (up2 (up2 M2 246 3 ((M2 246 3) + 1)) (248 + (M2 246 3)) 0 (M2 246 4)) (248 + (M2 246 3)) 1 ((up2 (up2 M2 246 3 ((M2 246 3) + 1)) (248 + (M2 246 3)) 0 (M2 246 4)) 246 5)) 246 4)) ((up2 (up2 (up2 M2 246 3 ((M2 246 3) + 1)) (248 + (M2 246 3)) 0 (M2 246 4)) (248 + (M2 246 3)) 1 ((up2 (up2 M2 246 3 ((M2 246 3) + 1)) (248 + (M2 246 3)) 0 (M2 246 4)) 246 5)) 246 6))) (248 + (M2 246 3)) 3 l1) (248 + (M2 246 3)) 4 ((up2 (up2 (up2 (up2 (up2 M2 246 3 ((M2 246 3) + 1)) (248 + (M2 246 3)) 0 (M2 246 4)) (248 + (M2 246 3)) 1 ((up2 (up2 M2 246 3 ((M2 246 3) + 1)) (248 + (M2 246 3)) 0 (M2 246 4)) 246 5)) (248 + (M2 246 3)) 2 ((up2 (up2 (up2 M2 246 3 ((M2 246 3) + 1)) (248 + (M2 246 3)) 0 (M2 246 4)) (248 + (M2 246 3)) 1 ((up2 (up2 M2 246 3 ((M2 246 3) + 1)) (248 + (M2 246 3)) 0 (M2 246 4)) 246 5)) (6 + ((up2 (up2 (up2 M2 246 3 ((M2 246 3) + 1)) (248 + (M2 246 3)) 0 (M2 246 4)) (248 + (M2 246 3)) 1 ((up2 (up2 M2 246 3 ((M2 246 3) + 1)) (248 + (M2 246 3)) 0 (M2 246 4)) 246 5)) 246 4)) ((up2 (up2 (up2 M2 246 3 ((M2 246 3) + 1)) (248 + (M2 246 3)) 0 (M2 246 4)) (248 + (M2 246 3)) 1 ((up2 (up2 M2 246 3 ((M2 246 3) + 1)) (248 + (M2 246 3)) 0 (M2 246 4)) 246 5)) 246 6))) (248 + (M2 246 3)) 3 l1) (15 + ((((up2 (up2 (up2 (up2 (up2 M2 246 3 ((M2 246 3) + 1)) (248 + (M2 246 3)) 0 (M2 246 4)) (248 + (M2 246 3)) 1 ((up2 (up2 M2 246 3 ((M2 246 3) + 1)) (248 + (M2 246 3)) 0 (M2 246 4)) 246 5)) (248 + (M2 246 3)) 2 ((up2 (up2 (up2 M2 246 3 ((M2 246 3) + 1)) (248 + (M2 246 3)) 0 (M2 246 4)) (248 + (M2 246 3)) 1 ((up2 (up2 M2 246 3 ((M2 246 3) + 1)) (248 + (M2 246 3)) 0 (M2 246 4)) 246 5)) (6 + ((up2 (up2 (up2 M2 246 3 ((M2 246 3) + 1)) (248 + (M2 246 3)) 0 (M2 246 4)) (248 + (M2 246 3)) 1 ((up2 (up2 M2 246 3 ((M2 246 3) + 1)) (248 + (M2 246 3)) 0 (M2 246 4)) 246 5)) 246 4)) ((up2 (up2 (up2 M2 246 3 ((M2 246 3) + 1)) (248 + (M2 246 3)) 0 (M2 246 4)) (248 + (M2 246 3)) 1 ((up2 (up2 M2 246 3 ((M2 246 3) + 1)) (248 + (M2 246 3)) 0 (M2 246 4)) 246 5)) 246 6))) (248 + (M2 246 3)) 3 l1) 246 4) * 6) + ((up2 (up2 (up2 (up2 (up2 M2 246 3 ((M2 246 3) + 1)) (248 + (M2 246 3)) 0 (M2 246 4)) (248 + (M2 246 3)) 1 ((up2 (up2 M2 246 3 ((M2 246 3) + 1)) (248 + (M2 246 3)) 0 (M2 246 4)) 246 5)) (248 + (M2 246 3)) 2 ((up2 (up2 (up2 M2 246 3 ((M2 246 3) + 1)) (248 + (M2 246 3)) 0 (M2 246 4)) (248 + (M2 246 3)) 1 ((up2 (up2 M2 246 3 ((M2 246 3) + 1)) (248 + (M2 246 3)) 0 (M2 246 4)) 246 5)) (6 + ((up2 (up2 (up2 M2 246 3 ((M2 246 3) + 1)) (248 + (M2 246 3)) 0 (M2 246 4)) (248 + (M2 246 3)) 1 ((up2 (up2 M2 246 3 ((M2 246 3) + 1)) (248 + (M2 246 3)) 0 (M2 246 4)) 246 5)) 246 4)) ((up2 (up2 (up2 M2 246 3 ((M2 246 3) + 1)) (248 + (M2 246 3)) 0 (M2 246 4)) (248 + (M2 246 3)) 1 ((up2 (up2 M2 246 3 ((M2 246 3) + 1)) (248 + (M2 246 3)) 0 (M2 246 4)) 246 5)) 246 6))) (248 + (M2 246 3)) 3 l1) 246 5))) ((up2 (up2 (up2 (up2 (up2 M2 246 3 ((M2 246 3) + 1)) (248 + (M2 246 3)) 0 (M2 246 4)) (248 + (M2 246 3)) 1 ((up2 (up2 M2 246 3 ((M2 246 3) + 1)) (248 + (M2 246 3)) 0 (M2 246 4)) 246 5)) (248 + (M2 246 3)) 2 ((up2 (up2 (up2 M2 246 3 ((M2 246 3) + 1)) (248 + (M2 246 3)) 0 (M2 246 4)) (248 + (M2 246 3)) 1 ((up2 (up2 M2 246 3 ((M2 246 3) + 1)) (248 + (M2 246 3)) 0 (M2 246 4)) 246 5)) (6 + ((up2 (up2 (up2 M2 246 3 ((M2 246 3) + 1)) (248 + (M2 246 3)) 0 (M2 246 4)) (248 + (M2 246 3)) 1 ((up2 (up2 M2 246 3 ((M2 246 3) + 1)) (248 + (M2 246 3)) 0 (M2 246 4)) 246 5)) 246 4)) ((up2 (up2 (up2 M2 246 3 ((M2 246 3) + 1)) (248 + (M2 246 3)) 0 (M2 246 4)) (248 + (M2 246 3)) 1 ((up2 (up2 M2 246 3 ((M2 246 3) + 1)) (248 + (M2 246 3)) 0 (M2 246 4)) 246 5)) 246 6))) (248 + (M2 246 3)) 3 l1) 246 6))) 246 5)]) (st := [(2, 14)]) (st1 := fun r => [(0, r), (2, 14)])  (pc := 6) dX3_minuteOf_6 ml_RX3_49 (by decide) (Nat.le_of_ble_eq_true rfl) rfl (fun _ => rfl) (by decide) (by decide) (Nat.le_of_ble_eq_true rfl) rfl ?_
      refine a_iload_n (pc := 0) dX3_rowOf_0 rfl ?_
      refine a_bipush (pc := 1) dX3_rowOf_1 (by decide) (by decide +kernel) ?_
      have ho16 := h.1
      replace h := h.2
      refine a_imul (pc := 3) dX3_rowOf_3 ho16 ?_
      refine a_iload_n (pc := 4) dX3_rowOf_4 rfl ?_
      have ho17 := h.1
      replace h := h.2
      refine a_iadd (pc := 5) dX3_rowOf_5 ho17 ?_
      refine a_ireti (pc := 6) dX3_rowOf_6 rfl rfl (Nat.le_of_ble_eq_true rfl) ⟨rfl, ?_⟩
      have ho18 := h.1
      replace h := h.2
      have hr19 := rw_14 ((((up2 (up2 (up2 (up2 (up2 (up2 M2 246 3 ((M2 246 3) + 1)) (248 + (M2 246 3)) 0 (M2 246 4)) (248 + (M2 246 3)) 1 ((up2 (up2 M2 246 3 ((M2 246 3) + 1)) (248 + (M2 246 3)) 0 (M2 246 4)) 246 5)) (248 + (M2 246 3)) 2 ((up2 (up2 (up2 M2 246 3 ((M2 246 3) + 1)) (248 + (M2 246 3)) 0 (M2 246 4)) (248 + (M2 246 3)) 1 ((up2 (up2 M2 246 3 ((M2 246 3) + 1)) (248 + (M2 246 3)) 0 (M2 246 4)) 246 5)) (6 + ((up2 (up2 (up2 M2 246 3 ((M2 246 3) + 1)) (248 + (M2 246 3)) 0 (M2 246 4)) (248 + (M2 246 3)) 1 ((up2 (up2 M2 246 3 ((M2 246 3) + 1)) (248 + (M2 246 3)) 0 (M2 246 4)) 246 5)) 246 4)) ((up2 (up2 (up2 M2 246 3 ((M2 246 3) + 1)) (248 + (M2 246 3)) 0 (M2 246 4)) (248 + (M2 246 3)) 1 ((up2 (up2 M2 246 3 ((M2 246 3) + 1)) (248 + (M2 246 3)) 0 (M2 246 4)) 246 5)) 246 6))) (248 + (M2 246 3)) 3 l1) (248 + (M2 246 3)) 4 ((up2 (up2 (up2 (up2 (up2 M2 246 3 ((M2 246 3) + 1)) (248 + (M2 246 3)) 0 (M2 246 4)) (248 + (M2 246 3)) 1 ((up2 (up2 M2 246 3 ((M2 246 3) + 1)) (248 + (M2 246 3)) 0 (M2 246 4)) 246 5)) (248 + (M2 246 3)) 2 ((up2 (up2 (up2 M2 246 3 ((M2 246 3) + 1)) (248 + (M2 246 3)) 0 (M2 246 4)) (248 + (M2 246 3)) 1 ((up2 (up2 M2 246 3 ((M2 246 3) + 1)) (248 + (M2 246 3)) 0 (M2 246 4)) 246 5)) (6 + ((up2 (up2 (up2 M2 246 3 ((M2 246 3) + 1)) (248 + (M2 246 3)) 0 (M2 246 4)) (248 + (M2 246 3)) 1 ((up2 (up2 M2 246 3 ((M2 246 3) + 1)) (248 + (M2 246 3)) 0 (M2 246 4)) 246 5)) 246 4)) ((up2 (up2 (up2 M2 246 3 ((M2 246 3) + 1)) (248 + (M2 246 3)) 0 (M2 246 4)) (248 + (M2 246 3)) 1 ((up2 (up2 M2 246 3 ((M2 246 3) + 1)) (248 + (M2 246 3)) 0 (M2 246 4)) 246 5)) 246 6))) (248 + (M2 246 3)) 3 l1) (15 + ((((up2 (up2 (up2 (up2 (up2 M2 246 3 ((M2 246 3) + 1)) (248 + (M2 246 3)) 0 (M2 246 4)) (248 + (M2 246 3)) 1 ((up2 (up2 M2 246 3 ((M2 246 3) + 1)) (248 + (M2 246 3)) 0 (M2 246 4)) 246 5)) (248 + (M2 246 3)) 2 ((up2 (up2 (up2 M2 246 3 ((M2 246 3) + 1)) (248 + (M2 246 3)) 0 (M2 246 4)) (248 + (M2 246 3)) 1 ((up2 (up2 M2 246 3 ((M2 246 3) + 1)) (248 + (M2 246 3)) 0 (M2 246 4)) 246 5)) (6 + ((up2 (up2 (up2 M2 246 3 ((M2 246 3) + 1)) (248 + (M2 246 3)) 0 (M2 246 4)) (248 + (M2 246 3)) 1 ((up2 (up2 M2 246 3 ((M2 246 3) + 1)) (248 + (M2 246 3)) 0 (M2 246 4)) 246 5)) 246 4)) ((up2 (up2 (up2 M2 246 3 ((M2 246 3) + 1)) (248 + (M2 246 3)) 0 (M2 246 4)) (248 + (M2 246 3)) 1 ((up2 (up2 M2 246 3 ((M2 246 3) + 1)) (248 + (M2 246 3)) 0 (M2 246 4)) 246 5)) 246 6))) (248 + (M2 246 3)) 3 l1) 246 4) * 6) + ((up2 (up2 (up2 (up2 (up2 M2 246 3 ((M2 246 3) + 1)) (248 + (M2 246 3)) 0 (M2 246 4)) (248 + (M2 246 3)) 1 ((up2 (up2 M2 246 3 ((M2 246 3) + 1)) (248 + (M2 246 3)) 0 (M2 246 4)) 246 5)) (248 + (M2 246 3)) 2 ((up2 (up2 (up2 M2 246 3 ((M2 246 3) + 1)) (248 + (M2 246 3)) 0 (M2 246 4)) (248 + (M2 246 3)) 1 ((up2 (up2 M2 246 3 ((M2 246 3) + 1)) (248 + (M2 246 3)) 0 (M2 246 4)) 246 5)) (6 + ((up2 (up2 (up2 M2 246 3 ((M2 246 3) + 1)) (248 + (M2 246 3)) 0 (M2 246 4)) (248 + (M2 246 3)) 1 ((up2 (up2 M2 246 3 ((M2 246 3) + 1)) (248 + (M2 246 3)) 0 (M2 246 4)) 246 5)) 246 4)) ((up2 (up2 (up2 M2 246 3 ((M2 246 3) + 1)) (248 + (M2 246 3)) 0 (M2 246 4)) (248 + (M2 246 3)) 1 ((up2 (up2 M2 246 3 ((M2 246 3) + 1)) (248 + (M2 246 3)) 0 (M2 246 4)) 246 5)) 246 6))) (248 + (M2 246 3)) 3 l1) 246 5))) ((up2 (up2 (up2 (up2 (up2 M2 246 3 ((M2 246 3) + 1)) (248 + (M2 246 3)) 0 (M2 246 4)) (248 + (M2 246 3)) 1 ((up2 (up2 M2 246 3 ((M2 246 3) + 1)) (248 + (M2 246 3)) 0 (M2 246 4)) 246 5)) (248 + (M2 246 3)) 2 ((up2 (up2 (up2 M2 246 3 ((M2 246 3) + 1)) (248 + (M2 246 3)) 0 (M2 246 4)) (248 + (M2 246 3)) 1 ((up2 (up2 M2 246 3 ((M2 246 3) + 1)) (248 + (M2 246 3)) 0 (M2 246 4)) 246 5)) (6 + ((up2 (up2 (up2 M2 246 3 ((M2 246 3) + 1)) (248 + (M2 246 3)) 0 (M2 246 4)) (248 + (M2 246 3)) 1 ((up2 (up2 M2 246 3 ((M2 246 3) + 1)) (248 + (M2 246 3)) 0 (M2 246 4)) 246 5)) 246 4)) ((up2 (up2 (up2 M2 246 3 ((M2 246 3) + 1)) (248 + (M2 246 3)) 0 (M2 246 4)) (248 + (M2 246 3)) 1 ((up2 (up2 M2 246 3 ((M2 246 3) + 1)) (248 + (M2 246 3)) 0 (M2 246 4)) 246 5)) 246 6))) (248 + (M2 246 3)) 3 l1) 246 6))) 246 4) * 6) + ((up2 (up2 (up2 (up2 (up2 (up2 M2 246 3 ((M2 246 3) + 1)) (248 + (M2 246 3)) 0 (M2 246 4)) (248 + (M2 246 3)) 1 ((up2 (up2 M2 246 3 ((M2 246 3) + 1)) (248 + (M2 246 3)) 0 (M2 246 4)) 246 5)) (248 + (M2 246 3)) 2 ((up2 (up2 (up2 M2 246 3 ((M2 246 3) + 1)) (248 + (M2 246 3)) 0 (M2 246 4)) (248 + (M2 246 3)) 1 ((up2 (up2 M2 246 3 ((M2 246 3) + 1)) (248 + (M2 246 3)) 0 (M2 246 4)) 246 5)) (6 + ((up2 (up2 (up2 M2 246 3 ((M2 246 3) + 1)) (248 + (M2 246 3)) 0 (M2 246 4)) (248 + (M2 246 3)) 1 ((up2 (up2 M2 246 3 ((M2 246 3) + 1)) (248 + (M2 246 3)) 0 (M2 246 4)) 246 5)) 246 4)) ((up2 (up2 (up2 M2 246 3 ((M2 246 3) + 1)) (248 + (M2 246 3)) 0 (M2 246 4)) (248 + (M2 246 3)) 1 ((up2 (up2 M2 246 3 ((M2 246 3) + 1)) (248 + (M2 246 3)) 0 (M2 246 4)) 246 5)) 246 6))) (248 + (M2 246 3)) 3 l1) (248 + (M2 246 3)) 4 ((up2 (up2 (up2 (up2 (up2 M2 246 3 ((M2 246 3) + 1)) (248 + (M2 246 3)) 0 (M2 246 4)) (248 + (M2 246 3)) 1 ((up2 (up2 M2 246 3 ((M2 246 3) + 1)) (248 + (M2 246 3)) 0 (M2 246 4)) 246 5)) (248 + (M2 246 3)) 2 ((up2 (up2 (up2 M2 246 3 ((M2 246 3) + 1)) (248 + (M2 246 3)) 0 (M2 246 4)) (248 + (M2 246 3)) 1 ((up2 (up2 M2 246 3 ((M2 246 3) + 1)) (248 + (M2 246 3)) 0 (M2 246 4)) 246 5)) (6 + ((up2 (up2 (up2 M2 246 3 ((M2 246 3) + 1)) (248 + (M2 246 3)) 0 (M2 246 4)) (248 + (M2 246 3)) 1 ((up2 (up2 M2 246 3 ((M2 246 3) + 1)) (248 + (M2 246 3)) 0 (M2 246 4)) 246 5)) 246 4)) ((up2 (up2 (up2 M2 246 3 ((M2 246 3) + 1)) (248 + (M2 246 3)) 0 (M2 246 4)) (248 + (M2 246 3)) 1 ((up2 (up2 M2 246 3 ((M2 246 3) + 1)) (248 + (M2 246 3)) 0 (M2 246 4)) 246 5)) 246 6))) (248 + (M2 246 3)) 3 l1) (15 + ((((up2 (up2 (up2 (up2 (up2 M2 246 3 ((M2 246 3) + 1)) (248 + (M2 246 3)) 0 (M2 246 4)) (248 + (M2 246 3)) 1 ((up2 (up2 M2 246 3 ((M2 246 3) + 1)) (248 + (M2 246 3)) 0 (M2 246 4)) 246 5)) (248 + (M2 246 3)) 2 ((up2 (up2 (up2 M2 246 3 ((M2 246 3) + 1)) (248 + (M2 246 3)) 0 (M2 246 4)) (248 + (M2 246 3)) 1 ((up2 (up2 M2 246 3 ((M2 246 3) + 1)) (248 + (M2 246 3)) 0 (M2 246 4)) 246 5)) (6 + ((up2 (up2 (up2 M2 246 3 ((M2 246 3) + 1)) (248 + (M2 246 3)) 0 (M2 246 4)) (248 + (M2 246 3)) 1 ((up2 (up2 M2 246 3 ((M2 246 3) + 1)) (248 + (M2 246 3)) 0 (M2 246 4)) 246 5)) 246 4)) ((up2 (up2 (up2 M2 246 3 ((M2 246 3) + 1)) (248 + (M2 246 3)) 0 (M2 246 4)) (248 + (M2 246 3)) 1 ((up2 (up2 M2 246 3 ((M2 246 3) + 1)) (248 + (M2 246 3)) 0 (M2 246 4)) 246 5)) 246 6))) (248 + (M2 246 3)) 3 l1) 246 4) * 6) + ((up2 (up2 (up2 (up2 (up2 M2 246 3 ((M2 246 3) + 1)) (248 + (M2 246 3)) 0 (M2 246 4)) (248 + (M2 246 3)) 1 ((up2 (up2 M2 246 3 ((M2 246 3) + 1)) (248 + (M2 246 3)) 0 (M2 246 4)) 246 5)) (248 + (M2 246 3)) 2 ((up2 (up2 (up2 M2 246 3 ((M2 246 3) + 1)) (248 + (M2 246 3)) 0 (M2 246 4)) (248 + (M2 246 3)) 1 ((up2 (up2 M2 246 3 ((M2 246 3) + 1)) (248 + (M2 246 3)) 0 (M2 246 4)) 246 5)) (6 + ((up2 (up2 (up2 M2 246 3 ((M2 246 3) + 1)) (248 + (M2 246 3)) 0 (M2 246 4)) (248 + (M2 246 3)) 1 ((up2 (up2 M2 246 3 ((M2 246 3) + 1)) (248 + (M2 246 3)) 0 (M2 246 4)) 246 5)) 246 4)) ((up2 (up2 (up2 M2 246 3 ((M2 246 3) + 1)) (248 + (M2 246 3)) 0 (M2 246 4)) (248 + (M2 246 3)) 1 ((up2 (up2 M2 246 3 ((M2 246 3) + 1)) (248 + (M2 246 3)) 0 (M2 246 4)) 246 5)) 246 6))) (248 + (M2 246 3)) 3 l1) 246 5))) ((up2 (up2 (up2 (up2 (up2 M2 246 3 ((M2 246 3) + 1)) (248 + (M2 246 3)) 0 (M2 246 4)) (248 + (M2 246 3)) 1 ((up2 (up2 M2 246 3 ((M2 246 3) + 1)) (248 + (M2 246 3)) 0 (M2 246 4)) 246 5)) (248 + (M2 246 3)) 2 ((up2 (up2 (up2 M2 246 3 ((M2 246 3) + 1)) (248 + (M2 246 3)) 0 (M2 246 4)) (248 + (M2 246 3)) 1 ((up2 (up2 M2 246 3 ((M2 246 3) + 1)) (248 + (M2 246 3)) 0 (M2 246 4)) 246 5)) (6 + ((up2 (up2 (up2 M2 246 3 ((M2 246 3) + 1)) (248 + (M2 246 3)) 0 (M2 246 4)) (248 + (M2 246 3)) 1 ((up2 (up2 M2 246 3 ((M2 246 3) + 1)) (248 + (M2 246 3)) 0 (M2 246 4)) 246 5)) 246 4)) ((up2 (up2 (up2 M2 246 3 ((M2 246 3) + 1)) (248 + (M2 246 3)) 0 (M2 246 4)) (248 + (M2 246 3)) 1 ((up2 (up2 M2 246 3 ((M2 246 3) + 1)) (248 + (M2 246 3)) 0 (M2 246 4)) 246 5)) 246 6))) (248 + (M2 246 3)) 3 l1) 246 6))) 246 5)) ho18.1 ho18.2
      refine a_aald (y := 15 + ((((up2 (up2 (up2 (up2 (up2 (up2 M2 246 3 ((M2 246 3) + 1)) (248 + (M2 246 3)) 0 (M2 246 4)) (248 + (M2 246 3)) 1 ((up2 (up2 M2 246 3 ((M2 246 3) + 1)) (248 + (M2 246 3)) 0 (M2 246 4)) 246 5)) (248 + (M2 246 3)) 2 ((up2 (up2 (up2 M2 246 3 ((M2 246 3) + 1)) (248 + (M2 246 3)) 0 (M2 246 4)) (248 + (M2 246 3)) 1 ((up2 (up2 M2 246 3 ((M2 246 3) + 1)) (248 + (M2 246 3)) 0 (M2 246 4)) 246 5)) (6 + ((up2 (up2 (up2 M2 246 3 ((M2 246 3) + 1)) (248 + (M2 246 3)) 0 (M2 246 4)) (248 + (M2 246 3)) 1 ((up2 (up2 M2 246 3 ((M2 246 3) + 1)) (248 + (M2 246 3)) 0 (M2 246 4)) 246 5)) 246 4)) ((up2 (up2 (up2 M2 246 3 ((M2 246 3) + 1)) (248 + (M2 246 3)) 0 (M2 246 4)) (248 + (M2 246 3)) 1 ((up2 (up2 M2 246 3 ((M2 246 3) + 1)) (248 + (M2 246 3)) 0 (M2 246 4)) 246 5)) 246 6))) (248 + (M2 246 3)) 3 l1) (248 + (M2 246 3)) 4 ((up2 (up2 (up2 (up2 (up2 M2 246 3 ((M2 246 3) + 1)) (248 + (M2 246 3)) 0 (M2 246 4)) (248 + (M2 246 3)) 1 ((up2 (up2 M2 246 3 ((M2 246 3) + 1)) (248 + (M2 246 3)) 0 (M2 246 4)) 246 5)) (248 + (M2 246 3)) 2 ((up2 (up2 (up2 M2 246 3 ((M2 246 3) + 1)) (248 + (M2 246 3)) 0 (M2 246 4)) (248 + (M2 246 3)) 1 ((up2 (up2 M2 246 3 ((M2 246 3) + 1)) (248 + (M2 246 3)) 0 (M2 246 4)) 246 5)) (6 + ((up2 (up2 (up2 M2 246 3 ((M2 246 3) + 1)) (248 + (M2 246 3)) 0 (M2 246 4)) (248 + (M2 246 3)) 1 ((up2 (up2 M2 246 3 ((M2 246 3) + 1)) (248 + (M2 246 3)) 0 (M2 246 4)) 246 5)) 246 4)) ((up2 (up2 (up2 M2 246 3 ((M2 246 3) + 1)) (248 + (M2 246 3)) 0 (M2 246 4)) (248 + (M2 246 3)) 1 ((up2 (up2 M2 246 3 ((M2 246 3) + 1)) (248 + (M2 246 3)) 0 (M2 246 4)) 246 5)) 246 6))) (248 + (M2 246 3)) 3 l1) (15 + ((((up2 (up2 (up2 (up2 (up2 M2 246 3 ((M2 246 3) + 1)) (248 + (M2 246 3)) 0 (M2 246 4)) (248 + (M2 246 3)) 1 ((up2 (up2 M2 246 3 ((M2 246 3) + 1)) (248 + (M2 246 3)) 0 (M2 246 4)) 246 5)) (248 + (M2 246 3)) 2 ((up2 (up2 (up2 M2 246 3 ((M2 246 3) + 1)) (248 + (M2 246 3)) 0 (M2 246 4)) (248 + (M2 246 3)) 1 ((up2 (up2 M2 246 3 ((M2 246 3) + 1)) (248 + (M2 246 3)) 0 (M2 246 4)) 246 5)) (6 + ((up2 (up2 (up2 M2 246 3 ((M2 246 3) + 1)) (248 + (M2 246 3)) 0 (M2 246 4)) (248 + (M2 246 3)) 1 ((up2 (up2 M2 246 3 ((M2 246 3) + 1)) (248 + (M2 246 3)) 0 (M2 246 4)) 246 5)) 246 4)) ((up2 (up2 (up2 M2 246 3 ((M2 246 3) + 1)) (248 + (M2 246 3)) 0 (M2 246 4)) (248 + (M2 246 3)) 1 ((up2 (up2 M2 246 3 ((M2 246 3) + 1)) (248 + (M2 246 3)) 0 (M2 246 4)) 246 5)) 246 6))) (248 + (M2 246 3)) 3 l1) 246 4) * 6) + ((up2 (up2 (up2 (up2 (up2 M2 246 3 ((M2 246 3) + 1)) (248 + (M2 246 3)) 0 (M2 246 4)) (248 + (M2 246 3)) 1 ((up2 (up2 M2 246 3 ((M2 246 3) + 1)) (248 + (M2 246 3)) 0 (M2 246 4)) 246 5)) (248 + (M2 246 3)) 2 ((up2 (up2 (up2 M2 246 3 ((M2 246 3) + 1)) (248 + (M2 246 3)) 0 (M2 246 4)) (248 + (M2 246 3)) 1 ((up2 (up2 M2 246 3 ((M2 246 3) + 1)) (248 + (M2 246 3)) 0 (M2 246 4)) 246 5)) (6 + ((up2 (up2 (up2 M2 246 3 ((M2 246 3) + 1)) (248 + (M2 246 3)) 0 (M2 246 4)) (248 + (M2 246 3)) 1 ((up2 (up2 M2 246 3 ((M2 246 3) + 1)) (248 + (M2 246 3)) 0 (M2 246 4)) 246 5)) 246 4)) ((up2 (up2 (up2 M2 246 3 ((M2 246 3) + 1)) (248 + (M2 246 3)) 0 (M2 246 4)) (248 + (M2 246 3)) 1 ((up2 (up2 M2 246 3 ((M2 246 3) + 1)) (248 + (M2 246 3)) 0 (M2 246 4)) 246 5)) 246 6))) (248 + (M2 246 3)) 3 l1) 246 5))) ((up2 (up2 (up2 (up2 (up2 M2 246 3 ((M2 246 3) + 1)) (248 + (M2 246 3)) 0 (M2 246 4)) (248 + (M2 246 3)) 1 ((up2 (up2 M2 246 3 ((M2 246 3) + 1)) (248 + (M2 246 3)) 0 (M2 246 4)) 246 5)) (248 + (M2 246 3)) 2 ((up2 (up2 (up2 M2 246 3 ((M2 246 3) + 1)) (248 + (M2 246 3)) 0 (M2 246 4)) (248 + (M2 246 3)) 1 ((up2 (up2 M2 246 3 ((M2 246 3) + 1)) (248 + (M2 246 3)) 0 (M2 246 4)) 246 5)) (6 + ((up2 (up2 (up2 M2 246 3 ((M2 246 3) + 1)) (248 + (M2 246 3)) 0 (M2 246 4)) (248 + (M2 246 3)) 1 ((up2 (up2 M2 246 3 ((M2 246 3) + 1)) (248 + (M2 246 3)) 0 (M2 246 4)) 246 5)) 246 4)) ((up2 (up2 (up2 M2 246 3 ((M2 246 3) + 1)) (248 + (M2 246 3)) 0 (M2 246 4)) (248 + (M2 246 3)) 1 ((up2 (up2 M2 246 3 ((M2 246 3) + 1)) (248 + (M2 246 3)) 0 (M2 246 4)) 246 5)) 246 6))) (248 + (M2 246 3)) 3 l1) 246 6))) 246 4) * 6) + ((up2 (up2 (up2 (up2 (up2 (up2 M2 246 3 ((M2 246 3) + 1)) (248 + (M2 246 3)) 0 (M2 246 4)) (248 + (M2 246 3)) 1 ((up2 (up2 M2 246 3 ((M2 246 3) + 1)) (248 + (M2 246 3)) 0 (M2 246 4)) 246 5)) (248 + (M2 246 3)) 2 ((up2 (up2 (up2 M2 246 3 ((M2 246 3) + 1)) (248 + (M2 246 3)) 0 (M2 246 4)) (248 + (M2 246 3)) 1 ((up2 (up2 M2 246 3 ((M2 246 3) + 1)) (248 + (M2 246 3)) 0 (M2 246 4)) 246 5)) (6 + ((up2 (up2 (up2 M2 246 3 ((M2 246 3) + 1)) (248 + (M2 246 3)) 0 (M2 246 4)) (248 + (M2 246 3)) 1 ((up2 (up2 M2 246 3 ((M2 246 3) + 1)) (248 + (M2 246 3)) 0 (M2 246 4)) 246 5)) 246 4)) ((up2 (up2 (up2 M2 246 3 ((M2 246 3) + 1)) (248 + (M2 246 3)) 0 (M2 246 4)) (248 + (M2 246 3)) 1 ((up2 (up2 M2 246 3 ((M2 246 3) + 1)) (248 + (M2 246 3)) 0 (M2 246 4)) 246 5)) 246 6))) (248 + (M2 246 3)) 3 l1) (248 + (M2 246 3)) 4 ((up2 (up2 (up2 (up2 (up2 M2 246 3 ((M2 246 3) + 1)) (248 + (M2 246 3)) 0 (M2 246 4)) (248 + (M2 246 3)) 1 ((up2 (up2 M2 246 3 ((M2 246 3) + 1)) (248 + (M2 246 3)) 0 (M2 246 4)) 246 5)) (248 + (M2 246 3)) 2 ((up2 (up2 (up2 M2 246 3 ((M2 246 3) + 1)) (248 + (M2 246 3)) 0 (M2 246 4)) (248 + (M2 246 3)) 1 ((up2 (up2 M2 246 3 ((M2 246 3) + 1)) (248 + (M2 246 3)) 0 (M2 246 4)) 246 5)) (6 + ((up2 (up2 (up2 M2 246 3 ((M2 246 3) + 1)) (248 + (M2 246 3)) 0 (M2 246 4)) (248 + (M2 246 3)) 1 ((up2 (up2 M2 246 3 ((M2 246 3) + 1)) (248 + (M2 246 3)) 0 (M2 246 4)) 246 5)) 246 4)) ((up2 (up2 (up2 M2 246 3 ((M2 246 3) + 1)) (248 + (M2 246 3)) 0 (M2 246 4)) (248 + (M2 246 3)) 1 ((up2 (up2 M2 246 3 ((M2 246 3) + 1)) (248 + (M2 246 3)) 0 (M2 246 4)) 246 5)) 246 6))) (248 + (M2 246 3)) 3 l1) (15 + ((((up2 (up2 (up2 (up2 (up2 M2 246 3 ((M2 246 3) + 1)) (248 + (M2 246 3)) 0 (M2 246 4)) (248 + (M2 246 3)) 1 ((up2 (up2 M2 246 3 ((M2 246 3) + 1)) (248 + (M2 246 3)) 0 (M2 246 4)) 246 5)) (248 + (M2 246 3)) 2 ((up2 (up2 (up2 M2 246 3 ((M2 246 3) + 1)) (248 + (M2 246 3)) 0 (M2 246 4)) (248 + (M2 246 3)) 1 ((up2 (up2 M2 246 3 ((M2 246 3) + 1)) (248 + (M2 246 3)) 0 (M2 246 4)) 246 5)) (6 + ((up2 (up2 (up2 M2 246 3 ((M2 246 3) + 1)) (248 + (M2 246 3)) 0 (M2 246 4)) (248 + (M2 246 3)) 1 ((up2 (up2 M2 246 3 ((M2 246 3) + 1)) (248 + (M2 246 3)) 0 (M2 246 4)) 246 5)) 246 4)) ((up2 (up2 (up2 M2 246 3 ((M2 246 3) + 1)) (248 + (M2 246 3)) 0 (M2 246 4)) (248 + (M2 246 3)) 1 ((up2 (up2 M2 246 3 ((M2 246 3) + 1)) (248 + (M2 246 3)) 0 (M2 246 4)) 246 5)) 246 6))) (248 + (M2 246 3)) 3 l1) 246 4) * 6) + ((up2 (up2 (up2 (up2 (up2 M2 246 3 ((M2 246 3) + 1)) (248 + (M2 246 3)) 0 (M2 246 4)) (248 + (M2 246 3)) 1 ((up2 (up2 M2 246 3 ((M2 246 3) + 1)) (248 + (M2 246 3)) 0 (M2 246 4)) 246 5)) (248 + (M2 246 3)) 2 ((up2 (up2 (up2 M2 246 3 ((M2 246 3) + 1)) (248 + (M2 246 3)) 0 (M2 246 4)) (248 + (M2 246 3)) 1 ((up2 (up2 M2 246 3 ((M2 246 3) + 1)) (248 + (M2 246 3)) 0 (M2 246 4)) 246 5)) (6 + ((up2 (up2 (up2 M2 246 3 ((M2 246 3) + 1)) (248 + (M2 246 3)) 0 (M2 246 4)) (248 + (M2 246 3)) 1 ((up2 (up2 M2 246 3 ((M2 246 3) + 1)) (248 + (M2 246 3)) 0 (M2 246 4)) 246 5)) 246 4)) ((up2 (up2 (up2 M2 246 3 ((M2 246 3) + 1)) (248 + (M2 246 3)) 0 (M2 246 4)) (248 + (M2 246 3)) 1 ((up2 (up2 M2 246 3 ((M2 246 3) + 1)) (248 + (M2 246 3)) 0 (M2 246 4)) 246 5)) 246 6))) (248 + (M2 246 3)) 3 l1) 246 5))) ((up2 (up2 (up2 (up2 (up2 M2 246 3 ((M2 246 3) + 1)) (248 + (M2 246 3)) 0 (M2 246 4)) (248 + (M2 246 3)) 1 ((up2 (up2 M2 246 3 ((M2 246 3) + 1)) (248 + (M2 246 3)) 0 (M2 246 4)) 246 5)) (248 + (M2 246 3)) 2 ((up2 (up2 (up2 M2 246 3 ((M2 246 3) + 1)) (248 + (M2 246 3)) 0 (M2 246 4)) (248 + (M2 246 3)) 1 ((up2 (up2 M2 246 3 ((M2 246 3) + 1)) (248 + (M2 246 3)) 0 (M2 246 4)) 246 5)) (6 + ((up2 (up2 (up2 M2 246 3 ((M2 246 3) + 1)) (248 + (M2 246 3)) 0 (M2 246 4)) (248 + (M2 246 3)) 1 ((up2 (up2 M2 246 3 ((M2 246 3) + 1)) (248 + (M2 246 3)) 0 (M2 246 4)) 246 5)) 246 4)) ((up2 (up2 (up2 M2 246 3 ((M2 246 3) + 1)) (248 + (M2 246 3)) 0 (M2 246 4)) (248 + (M2 246 3)) 1 ((up2 (up2 M2 246 3 ((M2 246 3) + 1)) (248 + (M2 246 3)) 0 (M2 246 4)) 246 5)) 246 6))) (248 + (M2 246 3)) 3 l1) 246 6))) 246 5))) (pc := 9) dX3_minuteOf_9 (by decide) s0_14 ho18.1 ho18.2 (by omega) ?_
      refine a_iload_n (pc := 10) dX3_minuteOf_10 rfl ?_
      have ho20 := h.1
      replace h := h.2
      refine a_iald (pc := 11) dX3_minuteOf_11 hr19.1 hr19.2 ho20.1 ho20.2 ?_
      refine a_ireti (pc := 12) dX3_minuteOf_12 rfl rfl (Nat.le_of_ble_eq_true rfl) ⟨rfl, ?_⟩
      refine a_iast (pc := 126) dX5_addRide_126 hr6.1 hr6.2 (by decide) (by decide) ?_
      refine a_aload_n (pc := 127) dX5_addRide_127 hr6.1 rfl ?_
      refine a_bipush (pc := 128) dX5_addRide_128 (by decide) (by decide +kernel) ?_
      refine a_aload_n (pc := 130) dX5_addRide_130 (by decide) rfl ?_
      refine a_getR (y := 1) (pc := 131) dX5_addRide_131 fl_RX5_9 (by decide) s0_246 rfl rfl ?_
      refine a_getR (y := 2) (pc := 134) dX5_addRide_134 fl_RX5_86 (by decide) s0_1 rfl rfl ?_
      refine a_aload_n (pc := 137) dX5_addRide_137 (by decide) rfl ?_
      refine a_getI (y := 4) (pc := 138) dX5_addRide_138 fl_RX5_28 (by decide) s0_246 (Or.inl rfl) rfl ?_
      have ho21 := h.1
      replace h := h.2
      refine a_iald (pc := 141) dX5_addRide_141 (by decide) s0_2 ho21.1 ho21.2 ?_
      refine a_iload_n (pc := 142) dX5_addRide_142 rfl ?_
      refine a_aload_n (pc := 143) dX5_addRide_143 (by decide) rfl ?_
      refine a_getI (y := 6) (pc := 144) dX5_addRide_144 fl_RX5_34 (by decide) s0_246 (Or.inl rfl) rfl ?_
      have ho22 := h.1
      replace h := h.2
      refine a_isub (pc := 147) dX5_addRide_147 ho22 ?_
      refine p_callS (As := [(0, (up2 (up2 (up2 (up2 (up2 (up2 (up2 M2 246 3 ((M2 246 3) + 1)) (248 + (M2 246 3)) 0 (M2 246 4)) (248 + (M2 246 3)) 1 ((up2 (up2 M2 246 3 ((M2 246 3) + 1)) (248 + (M2 246 3)) 0 (M2 246 4)) 246 5)) (248 + (M2 246 3)) 2 ((up2 (up2 (up2 M2 246 3 ((M2 246 3) + 1)) (248 + (M2 246 3)) 0 (M2 246 4)) (248 + (M2 246 3)) 1 ((up2 (up2 M2 246 3 ((M2 246 3) + 1)) (248 + (M2 246 3)) 0 (M2 246 4)) 246 5)) (6 + ((up2 (up2 (up2 M2 246 3 ((M2 246 3) + 1)) (248 + (M2 246 3)) 0 (M2 246 4)) (248 + (M2 246 3)) 1 ((up2 (up2 M2 246 3 ((M2 246 3) + 1)) (248 + (M2 246 3)) 0 (M2 246 4)) 246 5)) 246 4)) ((up2 (up2 (up2 M2 246 3 ((M2 246 3) + 1)) (248 + (M2 246 3)) 0 (M2 246 4)) (248 + (M2 246 3)) 1 ((up2 (up2 M2 246 3 ((M2 246 3) + 1)) (248 + (M2 246 3)) 0 (M2 246 4)) 246 5)) 246 6))) (248 + (M2 246 3)) 3 l1) (248 + (M2 246 3)) 4 ((up2 (up2 (up2 (up2 (up2 M2 246 3 ((M2 246 3) + 1)) (248 + (M2 246 3)) 0 (M2 246 4)) (248 + (M2 246 3)) 1 ((up2 (up2 M2 246 3 ((M2 246 3) + 1)) (248 + (M2 246 3)) 0 (M2 246 4)) 246 5)) (248 + (M2 246 3)) 2 ((up2 (up2 (up2 M2 246 3 ((M2 246 3) + 1)) (248 + (M2 246 3)) 0 (M2 246 4)) (248 + (M2 246 3)) 1 ((up2 (up2 M2 246 3 ((M2 246 3) + 1)) (248 + (M2 246 3)) 0 (M2 246 4)) 246 5)) (6 + ((up2 (up2 (up2 M2 246 3 ((M2 246 3) + 1)) (248 + (M2 246 3)) 0 (M2 246 4)) (248 + (M2 246 3)) 1 ((up2 (up2 M2 246 3 ((M2 246 3) + 1)) (248 + (M2 246 3)) 0 (M2 246 4)) 246 5)) 246 4)) ((up2 (up2 (up2 M2 246 3 ((M2 246 3) + 1)) (248 + (M2 246 3)) 0 (M2 246 4)) (248 + (M2 246 3)) 1 ((up2 (up2 M2 246 3 ((M2 246 3) + 1)) (248 + (M2 246 3)) 0 (M2 246 4)) 246 5)) 246 6))) (248 + (M2 246 3)) 3 l1) (15 + ((((up2 (up2 (up2 (up2 (up2 M2 246 3 ((M2 246 3) + 1)) (248 + (M2 246 3)) 0 (M2 246 4)) (248 + (M2 246 3)) 1 ((up2 (up2 M2 246 3 ((M2 246 3) + 1)) (248 + (M2 246 3)) 0 (M2 246 4)) 246 5)) (248 + (M2 246 3)) 2 ((up2 (up2 (up2 M2 246 3 ((M2 246 3) + 1)) (248 + (M2 246 3)) 0 (M2 246 4)) (248 + (M2 246 3)) 1 ((up2 (up2 M2 246 3 ((M2 246 3) + 1)) (248 + (M2 246 3)) 0 (M2 246 4)) 246 5)) (6 + ((up2 (up2 (up2 M2 246 3 ((M2 246 3) + 1)) (248 + (M2 246 3)) 0 (M2 246 4)) (248 + (M2 246 3)) 1 ((up2 (up2 M2 246 3 ((M2 246 3) + 1)) (248 + (M2 246 3)) 0 (M2 246 4)) 246 5)) 246 4)) ((up2 (up2 (up2 M2 246 3 ((M2 246 3) + 1)) (248 + (M2 246 3)) 0 (M2 246 4)) (248 + (M2 246 3)) 1 ((up2 (up2 M2 246 3 ((M2 246 3) + 1)) (248 + (M2 246 3)) 0 (M2 246 4)) 246 5)) 246 6))) (248 + (M2 246 3)) 3 l1) 246 4) * 6) + ((up2 (up2 (up2 (up2 (up2 M2 246 3 ((M2 246 3) + 1)) (248 + (M2 246 3)) 0 (M2 246 4)) (248 + (M2 246 3)) 1 ((up2 (up2 M2 246 3 ((M2 246 3) + 1)) (248 + (M2 246 3)) 0 (M2 246 4)) 246 5)) (248 + (M2 246 3)) 2 ((up2 (up2 (up2 M2 246 3 ((M2 246 3) + 1)) (248 + (M2 246 3)) 0 (M2 246 4)) (248 + (M2 246 3)) 1 ((up2 (up2 M2 246 3 ((M2 246 3) + 1)) (248 + (M2 246 3)) 0 (M2 246 4)) 246 5)) (6 + ((up2 (up2 (up2 M2 246 3 ((M2 246 3) + 1)) (248 + (M2 246 3)) 0 (M2 246 4)) (248 + (M2 246 3)) 1 ((up2 (up2 M2 246 3 ((M2 246 3) + 1)) (248 + (M2 246 3)) 0 (M2 246 4)) 246 5)) 246 4)) ((up2 (up2 (up2 M2 246 3 ((M2 246 3) + 1)) (248 + (M2 246 3)) 0 (M2 246 4)) (248 + (M2 246 3)) 1 ((up2 (up2 M2 246 3 ((M2 246 3) + 1)) (248 + (M2 246 3)) 0 (M2 246 4)) 246 5)) 246 6))) (248 + (M2 246 3)) 3 l1) 246 5))) ((up2 (up2 (up2 (up2 (up2 M2 246 3 ((M2 246 3) + 1)) (248 + (M2 246 3)) 0 (M2 246 4)) (248 + (M2 246 3)) 1 ((up2 (up2 M2 246 3 ((M2 246 3) + 1)) (248 + (M2 246 3)) 0 (M2 246 4)) 246 5)) (248 + (M2 246 3)) 2 ((up2 (up2 (up2 M2 246 3 ((M2 246 3) + 1)) (248 + (M2 246 3)) 0 (M2 246 4)) (248 + (M2 246 3)) 1 ((up2 (up2 M2 246 3 ((M2 246 3) + 1)) (248 + (M2 246 3)) 0 (M2 246 4)) 246 5)) (6 + ((up2 (up2 (up2 M2 246 3 ((M2 246 3) + 1)) (248 + (M2 246 3)) 0 (M2 246 4)) (248 + (M2 246 3)) 1 ((up2 (up2 M2 246 3 ((M2 246 3) + 1)) (248 + (M2 246 3)) 0 (M2 246 4)) 246 5)) 246 4)) ((up2 (up2 (up2 M2 246 3 ((M2 246 3) + 1)) (248 + (M2 246 3)) 0 (M2 246 4)) (248 + (M2 246 3)) 1 ((up2 (up2 M2 246 3 ((M2 246 3) + 1)) (248 + (M2 246 3)) 0 (M2 246 4)) 246 5)) 246 6))) (248 + (M2 246 3)) 3 l1) 246 6))) (248 + (M2 246 3)) 5 ((up2 (up2 (up2 (up2 (up2 (up2 M2 246 3 ((M2 246 3) + 1)) (248 + (M2 246 3)) 0 (M2 246 4)) (248 + (M2 246 3)) 1 ((up2 (up2 M2 246 3 ((M2 246 3) + 1)) (248 + (M2 246 3)) 0 (M2 246 4)) 246 5)) (248 + (M2 246 3)) 2 ((up2 (up2 (up2 M2 246 3 ((M2 246 3) + 1)) (248 + (M2 246 3)) 0 (M2 246 4)) (248 + (M2 246 3)) 1 ((up2 (up2 M2 246 3 ((M2 246 3) + 1)) (248 + (M2 246 3)) 0 (M2 246 4)) 246 5)) (6 + ((up2 (up2 (up2 M2 246 3 ((M2 246 3) + 1)) (248 + (M2 246 3)) 0 (M2 246 4)) (248 + (M2 246 3)) 1 ((up2 (up2 M2 246 3 ((M2 246 3) + 1)) (248 + (M2 246 3)) 0 (M2 246 4)) 246 5)) 246 4)) ((up2 (up2 (up2 M2 246 3 ((M2 246 3) + 1)) (248 + (M2 246 3)) 0 (M2 246 4)) (248 + (M2 246 3)) 1 ((up2 (up2 M2 246 3 ((M2 246 3) + 1)) (248 + (M2 246 3)) 0 (M2 246 4)) 246 5)) 246 6))) (248 + (M2 246 3)) 3 l1) (248 + (M2 246 3)) 4 ((up2 (up2 (up2 (up2 (up2 M2 246 3 ((M2 246 3) + 1)) (248 + (M2 246 3)) 0 (M2 246 4)) (248 + (M2 246 3)) 1 ((up2 (up2 M2 246 3 ((M2 246 3) + 1)) (248 + (M2 246 3)) 0 (M2 246 4)) 246 5)) (248 + (M2 246 3)) 2 ((up2 (up2 (up2 M2 246 3 ((M2 246 3) + 1)) (248 + (M2 246 3)) 0 (M2 246 4)) (248 + (M2 246 3)) 1 ((up2 (up2 M2 246 3 ((M2 246 3) + 1)) (248 + (M2 246 3)) 0 (M2 246 4)) 246 5)) (6 + ((up2 (up2 (up2 M2 246 3 ((M2 246 3) + 1)) (248 + (M2 246 3)) 0 (M2 246 4)) (248 + (M2 246 3)) 1 ((up2 (up2 M2 246 3 ((M2 246 3) + 1)) (248 + (M2 246 3)) 0 (M2 246 4)) 246 5)) 246 4)) ((up2 (up2 (up2 M2 246 3 ((M2 246 3) + 1)) (248 + (M2 246 3)) 0 (M2 246 4)) (248 + (M2 246 3)) 1 ((up2 (up2 M2 246 3 ((M2 246 3) + 1)) (248 + (M2 246 3)) 0 (M2 246 4)) 246 5)) 246 6))) (248 + (M2 246 3)) 3 l1) (15 + ((((up2 (up2 (up2 (up2 (up2 M2 246 3 ((M2 246 3) + 1)) (248 + (M2 246 3)) 0 (M2 246 4)) (248 + (M2 246 3)) 1 ((up2 (up2 M2 246 3 ((M2 246 3) + 1)) (248 + (M2 246 3)) 0 (M2 246 4)) 246 5)) (248 + (M2 246 3)) 2 ((up2 (up2 (up2 M2 246 3 ((M2 246 3) + 1)) (248 + (M2 246 3)) 0 (M2 246 4)) (248 + (M2 246 3)) 1 ((up2 (up2 M2 246 3 ((M2 246 3) + 1)) (248 + (M2 246 3)) 0 (M2 246 4)) 246 5)) (6 + ((up2 (up2 (up2 M2 246 3 ((M2 246 3) + 1)) (248 + (M2 246 3)) 0 (M2 246 4)) (248 + (M2 246 3)) 1 ((up2 (up2 M2 246 3 ((M2 246 3) + 1)) (248 + (M2 246 3)) 0 (M2 246 4)) 246 5)) 246 4)) ((up2 (up2 (up2 M2 246 3 ((M2 246 3) + 1)) (248 + (M2 246 3)) 0 (M2 246 4)) (248 + (M2 246 3)) 1 ((up2 (up2 M2 246 3 ((M2 246 3) + 1)) (248 + (M2 246 3)) 0 (M2 246 4)) 246 5)) 246 6))) (248 + (M2 246 3)) 3 l1) 246 4) * 6) + ((up2 (up2 (up2 (up2 (up2 M2 246 3 ((M2 246 3) + 1)) (248 + (M2 246 3)) 0 (M2 246 4)) (248 + (M2 246 3)) 1 ((up2 (up2 M2 246 3 ((M2 246 3) + 1)) (248 + (M2 246 3)) 0 (M2 246 4)) 246 5)) (248 + (M2 246 3)) 2 ((up2 (up2 (up2 M2 246 3 ((M2 246 3) + 1)) (248 + (M2 246 3)) 0 (M2 246 4)) (248 + (M2 246 3)) 1 ((up2 (up2 M2 246 3 ((M2 246 3) + 1)) (248 + (M2 246 3)) 0 (M2 246 4)) 246 5)) (6 + ((up2 (up2 (up2 M2 246 3 ((M2 246 3) + 1)) (248 + (M2 246 3)) 0 (M2 246 4)) (248 + (M2 246 3)) 1 ((up2 (up2 M2 246 3 ((M2 246 3) + 1)) (248 + (M2 246 3)) 0 (M2 246 4)) 246 5)) 246 4)) ((up2 (up2 (up2 M2 246 3 ((M2 246 3) + 1)) (248 + (M2 246 3)) 0 (M2 246 4)) (248 + (M2 246 3)) 1 ((up2 (up2 M2 246 3 ((M2 246 3) + 1)) (248 + (M2 246 3)) 0 (M2 246 4)) 246 5)) 246 6))) (248 + (M2 246 3)) 3 l1) 246 5))) ((up2 (up2 (up2 (up2 (up2 M2 246 3 ((M2 246 3) + 1)) (248 + (M2 246 3)) 0 (M2 246 4)) (248 + (M2 246 3)) 1 ((up2 (up2 M2 246 3 ((M2 246 3) + 1)) (248 + (M2 246 3)) 0 (M2 246 4)) 246 5)) (248 + (M2 246 3)) 2 ((up2 (up2 (up2 M2 246 3 ((M2 246 3) + 1)) (248 + (M2 246 3)) 0 (M2 246 4)) (248 + (M2 246 3)) 1 ((up2 (up2 M2 246 3 ((M2 246 3) + 1)) (248 + (M2 246 3)) 0 (M2 246 4)) 246 5)) (6 + ((up2 (up2 (up2 M2 246 3 ((M2 246 3) + 1)) (248 + (M2 246 3)) 0 (M2 246 4)) (248 + (M2 246 3)) 1 ((up2 (up2 M2 246 3 ((M2 246 3) + 1)) (248 + (M2 246 3)) 0 (M2 246 4)) 246 5)) 246 4)) ((up2 (up2 (up2 M2 246 3 ((M2 246 3) + 1)) (248 + (M2 246 3)) 0 (M2 246 4)) (248 + (M2 246 3)) 1 ((up2 (up2 M2 246 3 ((M2 246 3) + 1)) (248 + (M2 246 3)) 0 (M2 246 4)) 246 5)) 246 6))) (248 + (M2 246 3)) 3 l1) 246 6))) (15 + ((((up2 (up2 (up2 (up2 (up2 (up2 M2 246 3 ((M2 246 3) + 1)) (248 + (M2 246 3)) 0 (M2 246 4)) (248 + (M2 246 3)) 1 ((up2 (up2 M2 246 3 ((M2 246 3) + 1)) (248 + (M2 246 3)) 0 (M2 246 4)) 246 5)) (248 + (M2 246 3)) 2 ((up2 (up2 (up2 M2 246 3 ((M2 246 3) + 1)) (248 + (M2 246 3)) 0 (M2 246 4)) (248 + (M2 246 3)) 1 ((up2 (up2 M2 246 3 ((M2 246 3) + 1)) (248 + (M2 246 3)) 0 (M2 246 4)) 246 5)) (6 + ((up2 (up2 (up2 M2 246 3 ((M2 246 3) + 1)) (248 + (M2 246 3)) 0 (M2 246 4)) (248 + (M2 246 3)) 1 ((up2 (up2 M2 246 3 ((M2 246 3) + 1)) (248 + (M2 246 3)) 0 (M2 246 4)) 246 5)) 246 4)) ((up2 (up2 (up2 M2 246 3 ((M2 246 3) + 1)) (248 + (M2 246 3)) 0 (M2 246 4)) (248 + (M2 246 3)) 1 ((up2 (up2 M2 246 3 ((M2 246 3) + 1)) (248 + (M2 246 3)) 0 (M2 246 4)) 246 5)) 246 6))) (248 + (M2 246 3)) 3 l1) (248 + (M2 246 3)) 4 ((up2 (up2 (up2 (up2 (up2 M2 246 3 ((M2 246 3) + 1)) (248 + (M2 246 3)) 0 (M2 246 4)) (248 + (M2 246 3)) 1 ((up2 (up2 M2 246 3 ((M2 246 3) + 1)) (248 + (M2 246 3)) 0 (M2 246 4)) 246 5)) (248 + (M2 246 3)) 2 ((up2 (up2 (up2 M2 246 3 ((M2 246 3) + 1)) (248 + (M2 246 3)) 0 (M2 246 4)) (248 + (M2 246 3)) 1 ((up2 (up2 M2 246 3 ((M2 246 3) + 1)) (248 + (M2 246 3)) 0 (M2 246 4)) 246 5)) (6 + ((up2 (up2 (up2 M2 246 3 ((M2 246 3) + 1)) (248 + (M2 246 3)) 0 (M2 246 4)) (248 + (M2 246 3)) 1 ((up2 (up2 M2 246 3 ((M2 246 3) + 1)) (248 + (M2 246 3)) 0 (M2 246 4)) 246 5)) 246 4)) ((up2 (up2 (up2 M2 246 3 ((M2 246 3) + 1)) (248 + (M2 246 3)) 0 (M2 246 4)) (248 + (M2 246 3)) 1 ((up2 (up2 M2 246 3 ((M2 246 3) + 1)) (248 + (M2 246 3)) 0 (M2 246 4)) 246 5)) 246 6))) (248 + (M2 246 3)) 3 l1) (15 + ((((up2 (up2 (up2 (up2 (up2 M2 246 3 ((M2 246 3) + 1)) (248 + (M2 246 3)) 0 (M2 246 4)) (248 + (M2 246 3)) 1 ((up2 (up2 M2 246 3 ((M2 246 3) + 1)) (248 + (M2 246 3)) 0 (M2 246 4)) 246 5)) (248 + (M2 246 3)) 2 ((up2 (up2 (up2 M2 246 3 ((M2 246 3) + 1)) (248 + (M2 246 3)) 0 (M2 246 4)) (248 + (M2 246 3)) 1 ((up2 (up2 M2 246 3 ((M2 246 3) + 1)) (248 + (M2 246 3)) 0 (M2 246 4)) 246 5)) (6 + ((up2 (up2 (up2 M2 246 3 ((M2 246 3) + 1)) (248 + (M2 246 3)) 0 (M2 246 4)) (248 + (M2 246 3)) 1 ((up2 (up2 M2 246 3 ((M2 246 3) + 1)) (248 + (M2 246 3)) 0 (M2 246 4)) 246 5)) 246 4)) ((up2 (up2 (up2 M2 246 3 ((M2 246 3) + 1)) (248 + (M2 246 3)) 0 (M2 246 4)) (248 + (M2 246 3)) 1 ((up2 (up2 M2 246 3 ((M2 246 3) + 1)) (248 + (M2 246 3)) 0 (M2 246 4)) 246 5)) 246 6))) (248 + (M2 246 3)) 3 l1) 246 4) * 6) + ((up2 (up2 (up2 (up2 (up2 M2 246 3 ((M2 246 3) + 1)) (248 + (M2 246 3)) 0 (M2 246 4)) (248 + (M2 246 3)) 1 ((up2 (up2 M2 246 3 ((M2 246 3) + 1)) (248 + (M2 246 3)) 0 (M2 246 4)) 246 5)) (248 + (M2 246 3)) 2 ((up2 (up2 (up2 M2 246 3 ((M2 246 3) + 1)) (248 + (M2 246 3)) 0 (M2 246 4)) (248 + (M2 246 3)) 1 ((up2 (up2 M2 246 3 ((M2 246 3) + 1)) (248 + (M2 246 3)) 0 (M2 246 4)) 246 5)) (6 + ((up2 (up2 (up2 M2 246 3 ((M2 246 3) + 1)) (248 + (M2 246 3)) 0 (M2 246 4)) (248 + (M2 246 3)) 1 ((up2 (up2 M2 246 3 ((M2 246 3) + 1)) (248 + (M2 246 3)) 0 (M2 246 4)) 246 5)) 246 4)) ((up2 (up2 (up2 M2 246 3 ((M2 246 3) + 1)) (248 + (M2 246 3)) 0 (M2 246 4)) (248 + (M2 246 3)) 1 ((up2 (up2 M2 246 3 ((M2 246 3) + 1)) (248 + (M2 246 3)) 0 (M2 246 4)) 246 5)) 246 6))) (248 + (M2 246 3)) 3 l1) 246 5))) ((up2 (up2 (up2 (up2 (up2 M2 246 3 ((M2 246 3) + 1)) (248 + (M2 246 3)) 0 (M2 246 4)) (248 + (M2 246 3)) 1 ((up2 (up2 M2 246 3 ((M2 246 3) + 1)) (248 + (M2 246 3)) 0 (M2 246 4)) 246 5)) (248 + (M2 246 3)) 2 ((up2 (up2 (up2 M2 246 3 ((M2 246 3) + 1)) (248 + (M2 246 3)) 0 (M2 246 4)) (248 + (M2 246 3)) 1 ((up2 (up2 M2 246 3 ((M2 246 3) + 1)) (248 + (M2 246 3)) 0 (M2 246 4)) 246 5)) (6 + ((up2 (up2 (up2 M2 246 3 ((M2 246 3) + 1)) (248 + (M2 246 3)) 0 (M2 246 4)) (248 + (M2 246 3)) 1 ((up2 (up2 M2 246 3 ((M2 246 3) + 1)) (248 + (M2 246 3)) 0 (M2 246 4)) 246 5)) 246 4)) ((up2 (up2 (up2 M2 246 3 ((M2 246 3) + 1)) (248 + (M2 246 3)) 0 (M2 246 4)) (248 + (M2 246 3)) 1 ((up2 (up2 M2 246 3 ((M2 246 3) + 1)) (248 + (M2 246 3)) 0 (M2 246 4)) 246 5)) 246 6))) (248 + (M2 246 3)) 3 l1) 246 6))) 246 4) * 6) + ((up2 (up2 (up2 (up2 (up2 (up2 M2 246 3 ((M2 246 3) + 1)) (248 + (M2 246 3)) 0 (M2 246 4)) (248 + (M2 246 3)) 1 ((up2 (up2 M2 246 3 ((M2 246 3) + 1)) (248 + (M2 246 3)) 0 (M2 246 4)) 246 5)) (248 + (M2 246 3)) 2 ((up2 (up2 (up2 M2 246 3 ((M2 246 3) + 1)) (248 + (M2 246 3)) 0 (M2 246 4)) (248 + (M2 246 3)) 1 ((up2 (up2 M2 246 3 ((M2 246 3) + 1)) (248 + (M2 246 3)) 0 (M2 246 4)) 246 5)) (6 + ((up2 (up2 (up2 M2 246 3 ((M2 246 3) + 1)) (248 + (M2 246 3)) 0 (M2 246 4)) (248 + (M2 246 3)) 1 ((up2 (up2 M2 246 3 ((M2 246 3) + 1)) (248 + (M2 246 3)) 0 (M2 246 4)) 246 5)) 246 4)) ((up2 (up2 (up2 M2 246 3 ((M2 246 3) + 1)) (248 + (M2 246 3)) 0 (M2 246 4)) (248 + (M2 246 3)) 1 ((up2 (up2 M2 246 3 ((M2 246 3) + 1)) (248 + (M2 246 3)) 0 (M2 246 4)) 246 5)) 246 6))) (248 + (M2 246 3)) 3 l1) (248 + (M2 246 3)) 4 ((up2 (up2 (up2 (up2 (up2 M2 246 3 ((M2 246 3) + 1)) (248 + (M2 246 3)) 0 (M2 246 4)) (248 + (M2 246 3)) 1 ((up2 (up2 M2 246 3 ((M2 246 3) + 1)) (248 + (M2 246 3)) 0 (M2 246 4)) 246 5)) (248 + (M2 246 3)) 2 ((up2 (up2 (up2 M2 246 3 ((M2 246 3) + 1)) (248 + (M2 246 3)) 0 (M2 246 4)) (248 + (M2 246 3)) 1 ((up2 (up2 M2 246 3 ((M2 246 3) + 1)) (248 + (M2 246 3)) 0 (M2 246 4)) 246 5)) (6 + ((up2 (up2 (up2 M2 246 3 ((M2 246 3) + 1)) (248 + (M2 246 3)) 0 (M2 246 4)) (248 + (M2 246 3)) 1 ((up2 (up2 M2 246 3 ((M2 246 3) + 1)) (248 + (M2 246 3)) 0 (M2 246 4)) 246 5)) 246 4)) ((up2 (up2 (up2 M2 246 3 ((M2 246 3) + 1)) (248 + (M2 246 3)) 0 (M2 246 4)) (248 + (M2 246 3)) 1 ((up2 (up2 M2 246 3 ((M2 246 3) + 1)) (248 + (M2 246 3)) 0 (M2 246 4)) 246 5)) 246 6))) (248 + (M2 246 3)) 3 l1) (15 + ((((up2 (up2 (up2 (up2 (up2 M2 246 3 ((M2 246 3) + 1)) (248 + (M2 246 3)) 0 (M2 246 4)) (248 + (M2 246 3)) 1 ((up2 (up2 M2 246 3 ((M2 246 3) + 1)) (248 + (M2 246 3)) 0 (M2 246 4)) 246 5)) (248 + (M2 246 3)) 2 ((up2 (up2 (up2 M2 246 3 ((M2 246 3) + 1)) (248 + (M2 246 3)) 0 (M2 246 4)) (248 + (M2 246 3)) 1 ((up2 (up2 M2 246 3 ((M2 246 3) + 1)) (248 + (M2 246 3)) 0 (M2 246 4)) 246 5)) (6 + ((up2 (up2 (up2 M2 246 3 ((M2 246 3) + 1)) (248 + (M2 246 3)) 0 (M2 246 4)) (248 + (M2 246 3)) 1 ((up2 (up2 M2 246 3 ((M2 246 3) + 1)) (248 + (M2 246 3)) 0 (M2 246 4)) 246 5)) 246 4)) ((up2 (up2 (up2 M2 246 3 ((M2 246 3) + 1)) (248 + (M2 246 3)) 0 (M2 246 4)) (248 + (M2 246 3)) 1 ((up2 (up2 M2 246 3 ((M2 246 3) + 1)) (248 + (M2 246 3)) 0 (M2 246 4)) 246 5)) 246 6))) (248 + (M2 246 3)) 3 l1) 246 4) * 6) + ((up2 (up2 (up2 (up2 (up2 M2 246 3 ((M2 246 3) + 1)) (248 + (M2 246 3)) 0 (M2 246 4)) (248 + (M2 246 3)) 1 ((up2 (up2 M2 246 3 ((M2 246 3) + 1)) (248 + (M2 246 3)) 0 (M2 246 4)) 246 5)) (248 + (M2 246 3)) 2 ((up2 (up2 (up2 M2 246 3 ((M2 246 3) + 1)) (248 + (M2 246 3)) 0 (M2 246 4)) (248 + (M2 246 3)) 1 ((up2 (up2 M2 246 3 ((M2 246 3) + 1)) (248 + (M2 246 3)) 0 (M2 246 4)) 246 5)) (6 + ((up2 (up2 (up2 M2 246 3 ((M2 246 3) + 1)) (248 + (M2 246 3)) 0 (M2 246 4)) (248 + (M2 246 3)) 1 ((up2 (up2 M2 246 3 ((M2 246 3) + 1)) (248 + (M2 246 3)) 0 (M2 246 4)) 246 5)) 246 4)) ((up2 (up2 (up2 M2 246 3 ((M2 246 3) + 1)) (248 + (M2 246 3)) 0 (M2 246 4)) (248 + (M2 246 3)) 1 ((up2 (up2 M2 246 3 ((M2 246 3) + 1)) (248 + (M2 246 3)) 0 (M2 246 4)) 246 5)) 246 6))) (248 + (M2 246 3)) 3 l1) 246 5))) ((up2 (up2 (up2 (up2 (up2 M2 246 3 ((M2 246 3) + 1)) (248 + (M2 246 3)) 0 (M2 246 4)) (248 + (M2 246 3)) 1 ((up2 (up2 M2 246 3 ((M2 246 3) + 1)) (248 + (M2 246 3)) 0 (M2 246 4)) 246 5)) (248 + (M2 246 3)) 2 ((up2 (up2 (up2 M2 246 3 ((M2 246 3) + 1)) (248 + (M2 246 3)) 0 (M2 246 4)) (248 + (M2 246 3)) 1 ((up2 (up2 M2 246 3 ((M2 246 3) + 1)) (248 + (M2 246 3)) 0 (M2 246 4)) 246 5)) (6 + ((up2 (up2 (up2 M2 246 3 ((M2 246 3) + 1)) (248 + (M2 246 3)) 0 (M2 246 4)) (248 + (M2 246 3)) 1 ((up2 (up2 M2 246 3 ((M2 246 3) + 1)) (248 + (M2 246 3)) 0 (M2 246 4)) 246 5)) 246 4)) ((up2 (up2 (up2 M2 246 3 ((M2 246 3) + 1)) (248 + (M2 246 3)) 0 (M2 246 4)) (248 + (M2 246 3)) 1 ((up2 (up2 M2 246 3 ((M2 246 3) + 1)) (248 + (M2 246 3)) 0 (M2 246 4)) 246 5)) 246 6))) (248 + (M2 246 3)) 3 l1) 246 6))) 246 5))) r1)) 2 ((up2 (up2 (up2 (up2 (up2 (up2 (up2 M2 246 3 ((M2 246 3) + 1)) (248 + (M2 246 3)) 0 (M2 246 4)) (248 + (M2 246 3)) 1 ((up2 (up2 M2 246 3 ((M2 246 3) + 1)) (248 + (M2 246 3)) 0 (M2 246 4)) 246 5)) (248 + (M2 246 3)) 2 ((up2 (up2 (up2 M2 246 3 ((M2 246 3) + 1)) (248 + (M2 246 3)) 0 (M2 246 4)) (248 + (M2 246 3)) 1 ((up2 (up2 M2 246 3 ((M2 246 3) + 1)) (248 + (M2 246 3)) 0 (M2 246 4)) 246 5)) (6 + ((up2 (up2 (up2 M2 246 3 ((M2 246 3) + 1)) (248 + (M2 246 3)) 0 (M2 246 4)) (248 + (M2 246 3)) 1 ((up2 (up2 M2 246 3 ((M2 246 3) + 1)) (248 + (M2 246 3)) 0 (M2 246 4)) 246 5)) 246 4)) ((up2 (up2 (up2 M2 246 3 ((M2 246 3) + 1)) (248 + (M2 246 3)) 0 (M2 246 4)) (248 + (M2 246 3)) 1 ((up2 (up2 M2 246 3 ((M2 246 3) + 1)) (248 + (M2 246 3)) 0 (M2 246 4)) 246 5)) 246 6))) (248 + (M2 246 3)) 3 l1) (248 + (M2 246 3)) 4 ((up2 (up2 (up2 (up2 (up2 M2 246 3 ((M2 246 3) + 1)) (248 + (M2 246 3)) 0 (M2 246 4)) (248 + (M2 246 3)) 1 ((up2 (up2 M2 246 3 ((M2 246 3) + 1)) (248 + (M2 246 3)) 0 (M2 246 4)) 246 5)) (248 + (M2 246 3)) 2 ((up2 (up2 (up2 M2 246 3 ((M2 246 3) + 1)) (248 + (M2 246 3)) 0 (M2 246 4)) (248 + (M2 246 3)) 1 ((up2 (up2 M2 246 3 ((M2 246 3) + 1)) (248 + (M2 246 3)) 0 (M2 246 4)) 246 5)) (6 + ((up2 (up2 (up2 M2 246 3 ((M2 246 3) + 1)) (248 + (M2 246 3)) 0 (M2 246 4)) (248 + (M2 246 3)) 1 ((up2 (up2 M2 246 3 ((M2 246 3) + 1)) (248 + (M2 246 3)) 0 (M2 246 4)) 246 5)) 246 4)) ((up2 (up2 (up2 M2 246 3 ((M2 246 3) + 1)) (248 + (M2 246 3)) 0 (M2 246 4)) (248 + (M2 246 3)) 1 ((up2 (up2 M2 246 3 ((M2 246 3) + 1)) (248 + (M2 246 3)) 0 (M2 246 4)) 246 5)) 246 6))) (248 + (M2 246 3)) 3 l1) (15 + ((((up2 (up2 (up2 (up2 (up2 M2 246 3 ((M2 246 3) + 1)) (248 + (M2 246 3)) 0 (M2 246 4)) (248 + (M2 246 3)) 1 ((up2 (up2 M2 246 3 ((M2 246 3) + 1)) (248 + (M2 246 3)) 0 (M2 246 4)) 246 5)) (248 + (M2 246 3)) 2 ((up2 (up2 (up2 M2 246 3 ((M2 246 3) + 1)) (248 + (M2 246 3)) 0 (M2 246 4)) (248 + (M2 246 3)) 1 ((up2 (up2 M2 246 3 ((M2 246 3) + 1)) (248 + (M2 246 3)) 0 (M2 246 4)) 246 5)) (6 + ((up2 (up2 (up2 M2 246 3 ((M2 246 3) + 1)) (248 + (M2 246 3)) 0 (M2 246 4)) (248 + (M2 246 3)) 1 ((up2 (up2 M2 246 3 ((M2 246 3) + 1)) (248 + (M2 246 3)) 0 (M2 246 4)) 246 5)) 246 4)) ((up2 (up2 (up2 M2 246 3 ((M2 246 3) + 1)) (248 + (M2 246 3)) 0 (M2 246 4)) (248 + (M2 246 3)) 1 ((up2 (up2 M2 246 3 ((M2 246 3) + 1)) (248 + (M2 246 3)) 0 (M2 246 4)) 246 5)) 246 6))) (248 + (M2 246 3)) 3 l1) 246 4) * 6) + ((up2 (up2 (up2 (up2 (up2 M2 246 3 ((M2 246 3) + 1)) (248 + (M2 246 3)) 0 (M2 246 4)) (248 + (M2 246 3)) 1 ((up2 (up2 M2 246 3 ((M2 246 3) + 1)) (248 + (M2 246 3)) 0 (M2 246 4)) 246 5)) (248 + (M2 246 3)) 2 ((up2 (up2 (up2 M2 246 3 ((M2 246 3) + 1)) (248 + (M2 246 3)) 0 (M2 246 4)) (248 + (M2 246 3)) 1 ((up2 (up2 M2 246 3 ((M2 246 3) + 1)) (248 + (M2 246 3)) 0 (M2 246 4)) 246 5)) (6 + ((up2 (up2 (up2 M2 246 3 ((M2 246 3) + 1)) (248 + (M2 246 3)) 0 (M2 246 4)) (248 + (M2 246 3)) 1 ((up2 (up2 M2 246 3 ((M2 246 3) + 1)) (248 + (M2 246 3)) 0 (M2 246 4)) 246 5)) 246 4)) ((up2 (up2 (up2 M2 246 3 ((M2 246 3) + 1)) (248 + (M2 246 3)) 0 (M2 246 4)) (248 + (M2 246 3)) 1 ((up2 (up2 M2 246 3 ((M2 246 3) + 1)) (248 + (M2 246 3)) 0 (M2 246 4)) 246 5)) 246 6))) (248 + (M2 246 3)) 3 l1) 246 5))) ((up2 (up2 (up2 (up2 (up2 M2 246 3 ((M2 246 3) + 1)) (248 + (M2 246 3)) 0 (M2 246 4)) (248 + (M2 246 3)) 1 ((up2 (up2 M2 246 3 ((M2 246 3) + 1)) (248 + (M2 246 3)) 0 (M2 246 4)) 246 5)) (248 + (M2 246 3)) 2 ((up2 (up2 (up2 M2 246 3 ((M2 246 3) + 1)) (248 + (M2 246 3)) 0 (M2 246 4)) (248 + (M2 246 3)) 1 ((up2 (up2 M2 246 3 ((M2 246 3) + 1)) (248 + (M2 246 3)) 0 (M2 246 4)) 246 5)) (6 + ((up2 (up2 (up2 M2 246 3 ((M2 246 3) + 1)) (248 + (M2 246 3)) 0 (M2 246 4)) (248 + (M2 246 3)) 1 ((up2 (up2 M2 246 3 ((M2 246 3) + 1)) (248 + (M2 246 3)) 0 (M2 246 4)) 246 5)) 246 4)) ((up2 (up2 (up2 M2 246 3 ((M2 246 3) + 1)) (248 + (M2 246 3)) 0 (M2 246 4)) (248 + (M2 246 3)) 1 ((up2 (up2 M2 246 3 ((M2 246 3) + 1)) (248 + (M2 246 3)) 0 (M2 246 4)) 246 5)) 246 6))) (248 + (M2 246 3)) 3 l1) 246 6))) (248 + (M2 246 3)) 5 ((up2 (up2 (up2 (up2 (up2 (up2 M2 246 3 ((M2 246 3) + 1)) (248 + (M2 246 3)) 0 (M2 246 4)) (248 + (M2 246 3)) 1 ((up2 (up2 M2 246 3 ((M2 246 3) + 1)) (248 + (M2 246 3)) 0 (M2 246 4)) 246 5)) (248 + (M2 246 3)) 2 ((up2 (up2 (up2 M2 246 3 ((M2 246 3) + 1)) (248 + (M2 246 3)) 0 (M2 246 4)) (248 + (M2 246 3)) 1 ((up2 (up2 M2 246 3 ((M2 246 3) + 1)) (248 + (M2 246 3)) 0 (M2 246 4)) 246 5)) (6 + ((up2 (up2 (up2 M2 246 3 ((M2 246 3) + 1)) (248 + (M2 246 3)) 0 (M2 246 4)) (248 + (M2 246 3)) 1 ((up2 (up2 M2 246 3 ((M2 246 3) + 1)) (248 + (M2 246 3)) 0 (M2 246 4)) 246 5)) 246 4)) ((up2 (up2 (up2 M2 246 3 ((M2 246 3) + 1)) (248 + (M2 246 3)) 0 (M2 246 4)) (248 + (M2 246 3)) 1 ((up2 (up2 M2 246 3 ((M2 246 3) + 1)) (248 + (M2 246 3)) 0 (M2 246 4)) 246 5)) 246 6))) (248 + (M2 246 3)) 3 l1) (248 + (M2 246 3)) 4 ((up2 (up2 (up2 (up2 (up2 M2 246 3 ((M2 246 3) + 1)) (248 + (M2 246 3)) 0 (M2 246 4)) (248 + (M2 246 3)) 1 ((up2 (up2 M2 246 3 ((M2 246 3) + 1)) (248 + (M2 246 3)) 0 (M2 246 4)) 246 5)) (248 + (M2 246 3)) 2 ((up2 (up2 (up2 M2 246 3 ((M2 246 3) + 1)) (248 + (M2 246 3)) 0 (M2 246 4)) (248 + (M2 246 3)) 1 ((up2 (up2 M2 246 3 ((M2 246 3) + 1)) (248 + (M2 246 3)) 0 (M2 246 4)) 246 5)) (6 + ((up2 (up2 (up2 M2 246 3 ((M2 246 3) + 1)) (248 + (M2 246 3)) 0 (M2 246 4)) (248 + (M2 246 3)) 1 ((up2 (up2 M2 246 3 ((M2 246 3) + 1)) (248 + (M2 246 3)) 0 (M2 246 4)) 246 5)) 246 4)) ((up2 (up2 (up2 M2 246 3 ((M2 246 3) + 1)) (248 + (M2 246 3)) 0 (M2 246 4)) (248 + (M2 246 3)) 1 ((up2 (up2 M2 246 3 ((M2 246 3) + 1)) (248 + (M2 246 3)) 0 (M2 246 4)) 246 5)) 246 6))) (248 + (M2 246 3)) 3 l1) (15 + ((((up2 (up2 (up2 (up2 (up2 M2 246 3 ((M2 246 3) + 1)) (248 + (M2 246 3)) 0 (M2 246 4)) (248 + (M2 246 3)) 1 ((up2 (up2 M2 246 3 ((M2 246 3) + 1)) (248 + (M2 246 3)) 0 (M2 246 4)) 246 5)) (248 + (M2 246 3)) 2 ((up2 (up2 (up2 M2 246 3 ((M2 246 3) + 1)) (248 + (M2 246 3)) 0 (M2 246 4)) (248 + (M2 246 3)) 1 ((up2 (up2 M2 246 3 ((M2 246 3) + 1)) (248 + (M2 246 3)) 0 (M2 246 4)) 246 5)) (6 + ((up2 (up2 (up2 M2 246 3 ((M2 246 3) + 1)) (248 + (M2 246 3)) 0 (M2 246 4)) (248 + (M2 246 3)) 1 ((up2 (up2 M2 246 3 ((M2 246 3) + 1)) (248 + (M2 246 3)) 0 (M2 246 4)) 246 5)) 246 4)) ((up2 (up2 (up2 M2 246 3 ((M2 246 3) + 1)) (248 + (M2 246 3)) 0 (M2 246 4)) (248 + (M2 246 3)) 1 ((up2 (up2 M2 246 3 ((M2 246 3) + 1)) (248 + (M2 246 3)) 0 (M2 246 4)) 246 5)) 246 6))) (248 + (M2 246 3)) 3 l1) 246 4) * 6) + ((up2 (up2 (up2 (up2 (up2 M2 246 3 ((M2 246 3) + 1)) (248 + (M2 246 3)) 0 (M2 246 4)) (248 + (M2 246 3)) 1 ((up2 (up2 M2 246 3 ((M2 246 3) + 1)) (248 + (M2 246 3)) 0 (M2 246 4)) 246 5)) (248 + (M2 246 3)) 2 ((up2 (up2 (up2 M2 246 3 ((M2 246 3) + 1)) (248 + (M2 246 3)) 0 (M2 246 4)) (248 + (M2 246 3)) 1 ((up2 (up2 M2 246 3 ((M2 246 3) + 1)) (248 + (M2 246 3)) 0 (M2 246 4)) 246 5)) (6 + ((up2 (up2 (up2 M2 246 3 ((M2 246 3) + 1)) (248 + (M2 246 3)) 0 (M2 246 4)) (248 + (M2 246 3)) 1 ((up2 (up2 M2 246 3 ((M2 246 3) + 1)) (248 + (M2 246 3)) 0 (M2 246 4)) 246 5)) 246 4)) ((up2 (up2 (up2 M2 246 3 ((M2 246 3) + 1)) (248 + (M2 246 3)) 0 (M2 246 4)) (248 + (M2 246 3)) 1 ((up2 (up2 M2 246 3 ((M2 246 3) + 1)) (248 + (M2 246 3)) 0 (M2 246 4)) 246 5)) 246 6))) (248 + (M2 246 3)) 3 l1) 246 5))) ((up2 (up2 (up2 (up2 (up2 M2 246 3 ((M2 246 3) + 1)) (248 + (M2 246 3)) 0 (M2 246 4)) (248 + (M2 246 3)) 1 ((up2 (up2 M2 246 3 ((M2 246 3) + 1)) (248 + (M2 246 3)) 0 (M2 246 4)) 246 5)) (248 + (M2 246 3)) 2 ((up2 (up2 (up2 M2 246 3 ((M2 246 3) + 1)) (248 + (M2 246 3)) 0 (M2 246 4)) (248 + (M2 246 3)) 1 ((up2 (up2 M2 246 3 ((M2 246 3) + 1)) (248 + (M2 246 3)) 0 (M2 246 4)) 246 5)) (6 + ((up2 (up2 (up2 M2 246 3 ((M2 246 3) + 1)) (248 + (M2 246 3)) 0 (M2 246 4)) (248 + (M2 246 3)) 1 ((up2 (up2 M2 246 3 ((M2 246 3) + 1)) (248 + (M2 246 3)) 0 (M2 246 4)) 246 5)) 246 4)) ((up2 (up2 (up2 M2 246 3 ((M2 246 3) + 1)) (248 + (M2 246 3)) 0 (M2 246 4)) (248 + (M2 246 3)) 1 ((up2 (up2 M2 246 3 ((M2 246 3) + 1)) (248 + (M2 246 3)) 0 (M2 246 4)) 246 5)) 246 6))) (248 + (M2 246 3)) 3 l1) 246 6))) (15 + ((((up2 (up2 (up2 (up2 (up2 (up2 M2 246 3 ((M2 246 3) + 1)) (248 + (M2 246 3)) 0 (M2 246 4)) (248 + (M2 246 3)) 1 ((up2 (up2 M2 246 3 ((M2 246 3) + 1)) (248 + (M2 246 3)) 0 (M2 246 4)) 246 5)) (248 + (M2 246 3)) 2 ((up2 (up2 (up2 M2 246 3 ((M2 246 3) + 1)) (248 + (M2 246 3)) 0 (M2 246 4)) (248 + (M2 246 3)) 1 ((up2 (up2 M2 246 3 ((M2 246 3) + 1)) (248 + (M2 246 3)) 0 (M2 246 4)) 246 5)) (6 + ((up2 (up2 (up2 M2 246 3 ((M2 246 3) + 1)) (248 + (M2 246 3)) 0 (M2 246 4)) (248 + (M2 246 3)) 1 ((up2 (up2 M2 246 3 ((M2 246 3) + 1)) (248 + (M2 246 3)) 0 (M2 246 4)) 246 5)) 246 4)) ((up2 (up2 (up2 M2 246 3 ((M2 246 3) + 1)) (248 + (M2 246 3)) 0 (M2 246 4)) (248 + (M2 246 3)) 1 ((up2 (up2 M2 246 3 ((M2 246 3) + 1)) (248 + (M2 246 3)) 0 (M2 246 4)) 246 5)) 246 6))) (248 + (M2 246 3)) 3 l1) (248 + (M2 246 3)) 4 ((up2 (up2 (up2 (up2 (up2 M2 246 3 ((M2 246 3) + 1)) (248 + (M2 246 3)) 0 (M2 246 4)) (248 + (M2 246 3)) 1 ((up2 (up2 M2 246 3 ((M2 246 3) + 1)) (248 + (M2 246 3)) 0 (M2 246 4)) 246 5)) (248 + (M2 246 3)) 2 ((up2 (up2 (up2 M2 246 3 ((M2 246 3) + 1)) (248 + (M2 246 3)) 0 (M2 246 4)) (248 + (M2 246 3)) 1 ((up2 (up2 M2 246 3 ((M2 246 3) + 1)) (248 + (M2 246 3)) 0 (M2 246 4)) 246 5)) (6 + ((up2 (up2 (up2 M2 246 3 ((M2 246 3) + 1)) (248 + (M2 246 3)) 0 (M2 246 4)) (248 + (M2 246 3)) 1 ((up2 (up2 M2 246 3 ((M2 246 3) + 1)) (248 + (M2 246 3)) 0 (M2 246 4)) 246 5)) 246 4)) ((up2 (up2 (up2 M2 246 3 ((M2 246 3) + 1)) (248 + (M2 246 3)) 0 (M2 246 4)) (248 + (M2 246 3)) 1 ((up2 (up2 M2 246 3 ((M2 246 3) + 1)) (248 + (M2 246 3)) 0 (M2 246 4)) 246 5)) 246 6))) (248 + (M2 246 3)) 3 l1) (15 + ((((up2 (up2 (up2 (up2 (up2 M2 246 3 ((M2 246 3) + 1)) (248 + (M2 246 3)) 0 (M2 246 4)) (248 + (M2 246 3)) 1 ((up2 (up2 M2 246 3 ((M2 246 3) + 1)) (248 + (M2 246 3)) 0 (M2 246 4)) 246 5)) (248 + (M2 246 3)) 2 ((up2 (up2 (up2 M2 246 3 ((M2 246 3) + 1)) (248 + (M2 246 3)) 0 (M2 246 4)) (248 + (M2 246 3)) 1 ((up2 (up2 M2 246 3 ((M2 246 3) + 1)) (248 + (M2 246 3)) 0 (M2 246 4)) 246 5)) (6 + ((up2 (up2 (up2 M2 246 3 ((M2 246 3) + 1)) (248 + (M2 246 3)) 0 (M2 246 4)) (248 + (M2 246 3)) 1 ((up2 (up2 M2 246 3 ((M2 246 3) + 1)) (248 + (M2 246 3)) 0 (M2 246 4)) 246 5)) 246 4)) ((up2 (up2 (up2 M2 246 3 ((M2 246 3) + 1)) (248 + (M2 246 3)) 0 (M2 246 4)) (248 + (M2 246 3)) 1 ((up2 (up2 M2 246 3 ((M2 246 3) + 1)) (248 + (M2 246 3)) 0 (M2 246 4)) 246 5)) 246 6))) (248 + (M2 246 3)) 3 l1) 246 4) * 6) + ((up2 (up2 (up2 (up2 (up2 M2 246 3 ((M2 246 3) + 1)) (248 + (M2 246 3)) 0 (M2 246 4)) (248 + (M2 246 3)) 1 ((up2 (up2 M2 246 3 ((M2 246 3) + 1)) (248 + (M2 246 3)) 0 (M2 246 4)) 246 5)) (248 + (M2 246 3)) 2 ((up2 (up2 (up2 M2 246 3 ((M2 246 3) + 1)) (248 + (M2 246 3)) 0 (M2 246 4)) (248 + (M2 246 3)) 1 ((up2 (up2 M2 246 3 ((M2 246 3) + 1)) (248 + (M2 246 3)) 0 (M2 246 4)) 246 5)) (6 + ((up2 (up2 (up2 M2 246 3 ((M2 246 3) + 1)) (248 + (M2 246 3)) 0 (M2 246 4)) (248 + (M2 246 3)) 1 ((up2 (up2 M2 246 3 ((M2 246 3) + 1)) (248 + (M2 246 3)) 0 (M2 246 4)) 246 5)) 246 4)) ((up2 (up2 (up2 M2 246 3 ((M2 246 3) + 1)) (248 + (M2 246 3)) 0 (M2 246 4)) (248 + (M2 246 3)) 1 ((up2 (up2 M2 246 3 ((M2 246 3) + 1)) (248 + (M2 246 3)) 0 (M2 246 4)) 246 5)) 246 6))) (248 + (M2 246 3)) 3 l1) 246 5))) ((up2 (up2 (up2 (up2 (up2 M2 246 3 ((M2 246 3) + 1)) (248 + (M2 246 3)) 0 (M2 246 4)) (248 + (M2 246 3)) 1 ((up2 (up2 M2 246 3 ((M2 246 3) + 1)) (248 + (M2 246 3)) 0 (M2 246 4)) 246 5)) (248 + (M2 246 3)) 2 ((up2 (up2 (up2 M2 246 3 ((M2 246 3) + 1)) (248 + (M2 246 3)) 0 (M2 246 4)) (248 + (M2 246 3)) 1 ((up2 (up2 M2 246 3 ((M2 246 3) + 1)) (248 + (M2 246 3)) 0 (M2 246 4)) 246 5)) (6 + ((up2 (up2 (up2 M2 246 3 ((M2 246 3) + 1)) (248 + (M2 246 3)) 0 (M2 246 4)) (248 + (M2 246 3)) 1 ((up2 (up2 M2 246 3 ((M2 246 3) + 1)) (248 + (M2 246 3)) 0 (M2 246 4)) 246 5)) 246 4)) ((up2 (up2 (up2 M2 246 3 ((M2 246 3) + 1)) (248 + (M2 246 3)) 0 (M2 246 4)) (248 + (M2 246 3)) 1 ((up2 (up2 M2 246 3 ((M2 246 3) + 1)) (248 + (M2 246 3)) 0 (M2 246 4)) 246 5)) 246 6))) (248 + (M2 246 3)) 3 l1) 246 6))) 246 4) * 6) + ((up2 (up2 (up2 (up2 (up2 (up2 M2 246 3 ((M2 246 3) + 1)) (248 + (M2 246 3)) 0 (M2 246 4)) (248 + (M2 246 3)) 1 ((up2 (up2 M2 246 3 ((M2 246 3) + 1)) (248 + (M2 246 3)) 0 (M2 246 4)) 246 5)) (248 + (M2 246 3)) 2 ((up2 (up2 (up2 M2 246 3 ((M2 246 3) + 1)) (248 + (M2 246 3)) 0 (M2 246 4)) (248 + (M2 246 3)) 1 ((up2 (up2 M2 246 3 ((M2 246 3) + 1)) (248 + (M2 246 3)) 0 (M2 246 4)) 246 5)) (6 + ((up2 (up2 (up2 M2 246 3 ((M2 246 3) + 1)) (248 + (M2 246 3)) 0 (M2 246 4)) (248 + (M2 246 3)) 1 ((up2 (up2 M2 246 3 ((M2 246 3) + 1)) (248 + (M2 246 3)) 0 (M2 246 4)) 246 5)) 246 4)) ((up2 (up2 (up2 M2 246 3 ((M2 246 3) + 1)) (248 + (M2 246 3)) 0 (M2 246 4)) (248 + (M2 246 3)) 1 ((up2 (up2 M2 246 3 ((M2 246 3) + 1)) (248 + (M2 246 3)) 0 (M2 246 4)) 246 5)) 246 6))) (248 + (M2 246 3)) 3 l1) (248 + (M2 246 3)) 4 ((up2 (up2 (up2 (up2 (up2 M2 246 3 ((M2 246 3) + 1)) (248 + (M2 246 3)) 0 (M2 246 4)) (248 + (M2 246 3)) 1 ((up2 (up2 M2 246 3 ((M2 246 3) + 1)) (248 + (M2 246 3)) 0 (M2 246 4)) 246 5)) (248 + (M2 246 3)) 2 ((up2 (up2 (up2 M2 246 3 ((M2 246 3) + 1)) (248 + (M2 246 3)) 0 (M2 246 4)) (248 + (M2 246 3)) 1 ((up2 (up2 M2 246 3 ((M2 246 3) + 1)) (248 + (M2 246 3)) 0 (M2 246 4)) 246 5)) (6 + ((up2 (up2 (up2 M2 246 3 ((M2 246 3) + 1)) (248 + (M2 246 3)) 0 (M2 246 4)) (248 + (M2 246 3)) 1 ((up2 (up2 M2 246 3 ((M2 246 3) + 1)) (248 + (M2 246 3)) 0 (M2 246 4)) 246 5)) 246 4)) ((up2 (up2 (up2 M2 246 3 ((M2 246 3) + 1)) (248 + (M2 246 3)) 0 (M2 246 4)) (248 + (M2 246 3)) 1 ((up2 (up2 M2 246 3 ((M2 246 3) + 1)) (248 + (M2 246 3)) 0 (M2 246 4)) 246 5)) 246 6))) (248 + (M2 246 3)) 3 l1) (15 + ((((up2 (up2 (up2 (up2 (up2 M2 246 3 ((M2 246 3) + 1)) (248 + (M2 246 3)) 0 (M2 246 4)) (248 + (M2 246 3)) 1 ((up2 (up2 M2 246 3 ((M2 246 3) + 1)) (248 + (M2 246 3)) 0 (M2 246 4)) 246 5)) (248 + (M2 246 3)) 2 ((up2 (up2 (up2 M2 246 3 ((M2 246 3) + 1)) (248 + (M2 246 3)) 0 (M2 246 4)) (248 + (M2 246 3)) 1 ((up2 (up2 M2 246 3 ((M2 246 3) + 1)) (248 + (M2 246 3)) 0 (M2 246 4)) 246 5)) (6 + ((up2 (up2 (up2 M2 246 3 ((M2 246 3) + 1)) (248 + (M2 246 3)) 0 (M2 246 4)) (248 + (M2 246 3)) 1 ((up2 (up2 M2 246 3 ((M2 246 3) + 1)) (248 + (M2 246 3)) 0 (M2 246 4)) 246 5)) 246 4)) ((up2 (up2 (up2 M2 246 3 ((M2 246 3) + 1)) (248 + (M2 246 3)) 0 (M2 246 4)) (248 + (M2 246 3)) 1 ((up2 (up2 M2 246 3 ((M2 246 3) + 1)) (248 + (M2 246 3)) 0 (M2 246 4)) 246 5)) 246 6))) (248 + (M2 246 3)) 3 l1) 246 4) * 6) + ((up2 (up2 (up2 (up2 (up2 M2 246 3 ((M2 246 3) + 1)) (248 + (M2 246 3)) 0 (M2 246 4)) (248 + (M2 246 3)) 1 ((up2 (up2 M2 246 3 ((M2 246 3) + 1)) (248 + (M2 246 3)) 0 (M2 246 4)) 246 5)) (248 + (M2 246 3)) 2 ((up2 (up2 (up2 M2 246 3 ((M2 246 3) + 1)) (248 + (M2 246 3)) 0 (M2 246 4)) (248 + (M2 246 3)) 1 ((up2 (up2 M2 246 3 ((M2 246 3) + 1)) (248 + (M2 246 3)) 0 (M2 246 4)) 246 5)) (6 + ((up2 (up2 (up2 M2 246 3 ((M2 246 3) + 1)) (248 + (M2 246 3)) 0 (M2 246 4)) (248 + (M2 246 3)) 1 ((up2 (up2 M2 246 3 ((M2 246 3) + 1)) (248 + (M2 246 3)) 0 (M2 246 4)) 246 5)) 246 4)) ((up2 (up2 (up2 M2 246 3 ((M2 246 3) + 1)) (248 + (M2 246 3)) 0 (M2 246 4)) (248 + (M2 246 3)) 1 ((up2 (up2 M2 246 3 ((M2 246 3) + 1)) (248 + (M2 246 3)) 0 (M2 246 4)) 246 5)) 246 6))) (248 + (M2 246 3)) 3 l1) 246 5))) ((up2 (up2 (up2 (up2 (up2 M2 246 3 ((M2 246 3) + 1)) (248 + (M2 246 3)) 0 (M2 246 4)) (248 + (M2 246 3)) 1 ((up2 (up2 M2 246 3 ((M2 246 3) + 1)) (248 + (M2 246 3)) 0 (M2 246 4)) 246 5)) (248 + (M2 246 3)) 2 ((up2 (up2 (up2 M2 246 3 ((M2 246 3) + 1)) (248 + (M2 246 3)) 0 (M2 246 4)) (248 + (M2 246 3)) 1 ((up2 (up2 M2 246 3 ((M2 246 3) + 1)) (248 + (M2 246 3)) 0 (M2 246 4)) 246 5)) (6 + ((up2 (up2 (up2 M2 246 3 ((M2 246 3) + 1)) (248 + (M2 246 3)) 0 (M2 246 4)) (248 + (M2 246 3)) 1 ((up2 (up2 M2 246 3 ((M2 246 3) + 1)) (248 + (M2 246 3)) 0 (M2 246 4)) 246 5)) 246 4)) ((up2 (up2 (up2 M2 246 3 ((M2 246 3) + 1)) (248 + (M2 246 3)) 0 (M2 246 4)) (248 + (M2 246 3)) 1 ((up2 (up2 M2 246 3 ((M2 246 3) + 1)) (248 + (M2 246 3)) 0 (M2 246 4)) 246 5)) 246 6))) (248 + (M2 246 3)) 3 l1) 246 6))) 246 5))) r1)) 246 4)), (0, r1 - ((up2 (up2 (up2 (up2 (up2 (up2 (up2 M2 246 3 ((M2 246 3) + 1)) (248 + (M2 246 3)) 0 (M2 246 4)) (248 + (M2 246 3)) 1 ((up2 (up2 M2 246 3 ((M2 246 3) + 1)) (248 + (M2 246 3)) 0 (M2 246 4)) 246 5)) (248 + (M2 246 3)) 2 ((up2 (up2 (up2 M2 246 3 ((M2 246 3) + 1)) (248 + (M2 246 3)) 0 (M2 246 4)) (248 + (M2 246 3)) 1 ((up2 (up2 M2 246 3 ((M2 246 3) + 1)) (248 + (M2 246 3)) 0 (M2 246 4)) 246 5)) (6 + ((up2 (up2 (up2 M2 246 3 ((M2 246 3) + 1)) (248 + (M2 246 3)) 0 (M2 246 4)) (248 + (M2 246 3)) 1 ((up2 (up2 M2 246 3 ((M2 246 3) + 1)) (248 + (M2 246 3)) 0 (M2 246 4)) 246 5)) 246 4)) ((up2 (up2 (up2 M2 246 3 ((M2 246 3) + 1)) (248 + (M2 246 3)) 0 (M2 246 4)) (248 + (M2 246 3)) 1 ((up2 (up2 M2 246 3 ((M2 246 3) + 1)) (248 + (M2 246 3)) 0 (M2 246 4)) 246 5)) 246 6))) (248 + (M2 246 3)) 3 l1) (248 + (M2 246 3)) 4 ((up2 (up2 (up2 (up2 (up2 M2 246 3 ((M2 246 3) + 1)) (248 + (M2 246 3)) 0 (M2 246 4)) (248 + (M2 246 3)) 1 ((up2 (up2 M2 246 3 ((M2 246 3) + 1)) (248 + (M2 246 3)) 0 (M2 246 4)) 246 5)) (248 + (M2 246 3)) 2 ((up2 (up2 (up2 M2 246 3 ((M2 246 3) + 1)) (248 + (M2 246 3)) 0 (M2 246 4)) (248 + (M2 246 3)) 1 ((up2 (up2 M2 246 3 ((M2 246 3) + 1)) (248 + (M2 246 3)) 0 (M2 246 4)) 246 5)) (6 + ((up2 (up2 (up2 M2 246 3 ((M2 246 3) + 1)) (248 + (M2 246 3)) 0 (M2 246 4)) (248 + (M2 246 3)) 1 ((up2 (up2 M2 246 3 ((M2 246 3) + 1)) (248 + (M2 246 3)) 0 (M2 246 4)) 246 5)) 246 4)) ((up2 (up2 (up2 M2 246 3 ((M2 246 3) + 1)) (248 + (M2 246 3)) 0 (M2 246 4)) (248 + (M2 246 3)) 1 ((up2 (up2 M2 246 3 ((M2 246 3) + 1)) (248 + (M2 246 3)) 0 (M2 246 4)) 246 5)) 246 6))) (248 + (M2 246 3)) 3 l1) (15 + ((((up2 (up2 (up2 (up2 (up2 M2 246 3 ((M2 246 3) + 1)) (248 + (M2 246 3)) 0 (M2 246 4)) (248 + (M2 246 3)) 1 ((up2 (up2 M2 246 3 ((M2 246 3) + 1)) (248 + (M2 246 3)) 0 (M2 246 4)) 246 5)) (248 + (M2 246 3)) 2 ((up2 (up2 (up2 M2 246 3 ((M2 246 3) + 1)) (248 + (M2 246 3)) 0 (M2 246 4)) (248 + (M2 246 3)) 1 ((up2 (up2 M2 246 3 ((M2 246 3) + 1)) (248 + (M2 246 3)) 0 (M2 246 4)) 246 5)) (6 + ((up2 (up2 (up2 M2 246 3 ((M2 246 3) + 1)) (248 + (M2 246 3)) 0 (M2 246 4)) (248 + (M2 246 3)) 1 ((up2 (up2 M2 246 3 ((M2 246 3) + 1)) (248 + (M2 246 3)) 0 (M2 246 4)) 246 5)) 246 4)) ((up2 (up2 (up2 M2 246 3 ((M2 246 3) + 1)) (248 + (M2 246 3)) 0 (M2 246 4)) (248 + (M2 246 3)) 1 ((up2 (up2 M2 246 3 ((M2 246 3) + 1)) (248 + (M2 246 3)) 0 (M2 246 4)) 246 5)) 246 6))) (248 + (M2 246 3)) 3 l1) 246 4) * 6) + ((up2 (up2 (up2 (up2 (up2 M2 246 3 ((M2 246 3) + 1)) (248 + (M2 246 3)) 0 (M2 246 4)) (248 + (M2 246 3)) 1 ((up2 (up2 M2 246 3 ((M2 246 3) + 1)) (248 + (M2 246 3)) 0 (M2 246 4)) 246 5)) (248 + (M2 246 3)) 2 ((up2 (up2 (up2 M2 246 3 ((M2 246 3) + 1)) (248 + (M2 246 3)) 0 (M2 246 4)) (248 + (M2 246 3)) 1 ((up2 (up2 M2 246 3 ((M2 246 3) + 1)) (248 + (M2 246 3)) 0 (M2 246 4)) 246 5)) (6 + ((up2 (up2 (up2 M2 246 3 ((M2 246 3) + 1)) (248 + (M2 246 3)) 0 (M2 246 4)) (248 + (M2 246 3)) 1 ((up2 (up2 M2 246 3 ((M2 246 3) + 1)) (248 + (M2 246 3)) 0 (M2 246 4)) 246 5)) 246 4)) ((up2 (up2 (up2 M2 246 3 ((M2 246 3) + 1)) (248 + (M2 246 3)) 0 (M2 246 4)) (248 + (M2 246 3)) 1 ((up2 (up2 M2 246 3 ((M2 246 3) + 1)) (248 + (M2 246 3)) 0 (M2 246 4)) 246 5)) 246 6))) (248 + (M2 246 3)) 3 l1) 246 5))) ((up2 (up2 (up2 (up2 (up2 M2 246 3 ((M2 246 3) + 1)) (248 + (M2 246 3)) 0 (M2 246 4)) (248 + (M2 246 3)) 1 ((up2 (up2 M2 246 3 ((M2 246 3) + 1)) (248 + (M2 246 3)) 0 (M2 246 4)) 246 5)) (248 + (M2 246 3)) 2 ((up2 (up2 (up2 M2 246 3 ((M2 246 3) + 1)) (248 + (M2 246 3)) 0 (M2 246 4)) (248 + (M2 246 3)) 1 ((up2 (up2 M2 246 3 ((M2 246 3) + 1)) (248 + (M2 246 3)) 0 (M2 246 4)) 246 5)) (6 + ((up2 (up2 (up2 M2 246 3 ((M2 246 3) + 1)) (248 + (M2 246 3)) 0 (M2 246 4)) (248 + (M2 246 3)) 1 ((up2 (up2 M2 246 3 ((M2 246 3) + 1)) (248 + (M2 246 3)) 0 (M2 246 4)) 246 5)) 246 4)) ((up2 (up2 (up2 M2 246 3 ((M2 246 3) + 1)) (248 + (M2 246 3)) 0 (M2 246 4)) (248 + (M2 246 3)) 1 ((up2 (up2 M2 246 3 ((M2 246 3) + 1)) (248 + (M2 246 3)) 0 (M2 246 4)) 246 5)) 246 6))) (248 + (M2 246 3)) 3 l1) 246 6))) (248 + (M2 246 3)) 5 ((up2 (up2 (up2 (up2 (up2 (up2 M2 246 3 ((M2 246 3) + 1)) (248 + (M2 246 3)) 0 (M2 246 4)) (248 + (M2 246 3)) 1 ((up2 (up2 M2 246 3 ((M2 246 3) + 1)) (248 + (M2 246 3)) 0 (M2 246 4)) 246 5)) (248 + (M2 246 3)) 2 ((up2 (up2 (up2 M2 246 3 ((M2 246 3) + 1)) (248 + (M2 246 3)) 0 (M2 246 4)) (248 + (M2 246 3)) 1 ((up2 (up2 M2 246 3 ((M2 246 3) + 1)) (248 + (M2 246 3)) 0 (M2 246 4)) 246 5)) (6 + ((up2 (up2 (up2 M2 246 3 ((M2 246 3) + 1)) (248 + (M2 246 3)) 0 (M2 246 4)) (248 + (M2 246 3)) 1 ((up2 (up2 M2 246 3 ((M2 246 3) + 1)) (248 + (M2 246 3)) 0 (M2 246 4)) 246 5)) 246 4)) ((up2 (up2 (up2 M2 246 3 ((M2 246 3) + 1)) (248 + (M2 246 3)) 0 (M2 246 4)) (248 + (M2 246 3)) 1 ((up2 (up2 M2 246 3 ((M2 246 3) + 1)) (248 + (M2 246 3)) 0 (M2 246 4)) 246 5)) 246 6))) (248 + (M2 246 3)) 3 l1) (248 + (M2 246 3)) 4 ((up2 (up2 (up2 (up2 (up2 M2 246 3 ((M2 246 3) + 1)) (248 + (M2 246 3)) 0 (M2 246 4)) (248 + (M2 246 3)) 1 ((up2 (up2 M2 246 3 ((M2 246 3) + 1)) (248 + (M2 246 3)) 0 (M2 246 4)) 246 5)) (248 + (M2 246 3)) 2 ((up2 (up2 (up2 M2 246 3 ((M2 246 3) + 1)) (248 + (M2 246 3)) 0 (M2 246 4)) (248 + (M2 246 3)) 1 ((up2 (up2 M2 246 3 ((M2 246 3) + 1)) (248 + (M2 246 3)) 0 (M2 246 4)) 246 5)) (6 + ((up2 (up2 (up2 M2 246 3 ((M2 246 3) + 1)) (248 + (M2 246 3)) 0 (M2 246 4)) (248 + (M2 246 3)) 1 ((up2 (up2 M2 246 3 ((M2 246 3) + 1)) (248 + (M2 246 3)) 0 (M2 246 4)) 246 5)) 246 4)) ((up2 (up2 (up2 M2 246 3 ((M2 246 3) + 1)) (248 + (M2 246 3)) 0 (M2 246 4)) (248 + (M2 246 3)) 1 ((up2 (up2 M2 246 3 ((M2 246 3) + 1)) (248 + (M2 246 3)) 0 (M2 246 4)) 246 5)) 246 6))) (248 + (M2 246 3)) 3 l1) (15 + ((((up2 (up2 (up2 (up2 (up2 M2 246 3 ((M2 246 3) + 1)) (248 + (M2 246 3)) 0 (M2 246 4)) (248 + (M2 246 3)) 1 ((up2 (up2 M2 246 3 ((M2 246 3) + 1)) (248 + (M2 246 3)) 0 (M2 246 4)) 246 5)) (248 + (M2 246 3)) 2 ((up2 (up2 (up2 M2 246 3 ((M2 246 3) + 1)) (248 + (M2 246 3)) 0 (M2 246 4)) (248 + (M2 246 3)) 1 ((up2 (up2 M2 246 3 ((M2 246 3) + 1)) (248 + (M2 246 3)) 0 (M2 246 4)) 246 5)) (6 + ((up2 (up2 (up2 M2 246 3 ((M2 246 3) + 1)) (248 + (M2 246 3)) 0 (M2 246 4)) (248 + (M2 246 3)) 1 ((up2 (up2 M2 246 3 ((M2 246 3) + 1)) (248 + (M2 246 3)) 0 (M2 246 4)) 246 5)) 246 4)) ((up2 (up2 (up2 M2 246 3 ((M2 246 3) + 1)) (248 + (M2 246 3)) 0 (M2 246 4)) (248 + (M2 246 3)) 1 ((up2 (up2 M2 246 3 ((M2 246 3) + 1)) (248 + (M2 246 3)) 0 (M2 246 4)) 246 5)) 246 6))) (248 + (M2 246 3)) 3 l1) 246 4) * 6) + ((up2 (up2 (up2 (up2 (up2 M2 246 3 ((M2 246 3) + 1)) (248 + (M2 246 3)) 0 (M2 246 4)) (248 + (M2 246 3)) 1 ((up2 (up2 M2 246 3 ((M2 246 3) + 1)) (248 + (M2 246 3)) 0 (M2 246 4)) 246 5)) (248 + (M2 246 3)) 2 ((up2 (up2 (up2 M2 246 3 ((M2 246 3) + 1)) (248 + (M2 246 3)) 0 (M2 246 4)) (248 + (M2 246 3)) 1 ((up2 (up2 M2 246 3 ((M2 246 3) + 1)) (248 + (M2 246 3)) 0 (M2 246 4)) 246 5)) (6 + ((up2 (up2 (up2 M2 246 3 ((M2 246 3) + 1)) (248 + (M2 246 3)) 0 (M2 246 4)) (248 + (M2 246 3)) 1 ((up2 (up2 M2 246 3 ((M2 246 3) + 1)) (248 + (M2 246 3)) 0 (M2 246 4)) 246 5)) 246 4)) ((up2 (up2 (up2 M2 246 3 ((M2 246 3) + 1)) (248 + (M2 246 3)) 0 (M2 246 4)) (248 + (M2 246 3)) 1 ((up2 (up2 M2 246 3 ((M2 246 3) + 1)) (248 + (M2 246 3)) 0 (M2 246 4)) 246 5)) 246 6))) (248 + (M2 246 3)) 3 l1) 246 5))) ((up2 (up2 (up2 (up2 (up2 M2 246 3 ((M2 246 3) + 1)) (248 + (M2 246 3)) 0 (M2 246 4)) (248 + (M2 246 3)) 1 ((up2 (up2 M2 246 3 ((M2 246 3) + 1)) (248 + (M2 246 3)) 0 (M2 246 4)) 246 5)) (248 + (M2 246 3)) 2 ((up2 (up2 (up2 M2 246 3 ((M2 246 3) + 1)) (248 + (M2 246 3)) 0 (M2 246 4)) (248 + (M2 246 3)) 1 ((up2 (up2 M2 246 3 ((M2 246 3) + 1)) (248 + (M2 246 3)) 0 (M2 246 4)) 246 5)) (6 + ((up2 (up2 (up2 M2 246 3 ((M2 246 3) + 1)) (248 + (M2 246 3)) 0 (M2 246 4)) (248 + (M2 246 3)) 1 ((up2 (up2 M2 246 3 ((M2 246 3) + 1)) (248 + (M2 246 3)) 0 (M2 246 4)) 246 5)) 246 4)) ((up2 (up2 (up2 M2 246 3 ((M2 246 3) + 1)) (248 + (M2 246 3)) 0 (M2 246 4)) (248 + (M2 246 3)) 1 ((up2 (up2 M2 246 3 ((M2 246 3) + 1)) (248 + (M2 246 3)) 0 (M2 246 4)) 246 5)) 246 6))) (248 + (M2 246 3)) 3 l1) 246 6))) (15 + ((((up2 (up2 (up2 (up2 (up2 (up2 M2 246 3 ((M2 246 3) + 1)) (248 + (M2 246 3)) 0 (M2 246 4)) (248 + (M2 246 3)) 1 ((up2 (up2 M2 246 3 ((M2 246 3) + 1)) (248 + (M2 246 3)) 0 (M2 246 4)) 246 5)) (248 + (M2 246 3)) 2 ((up2 (up2 (up2 M2 246 3 ((M2 246 3) + 1)) (248 + (M2 246 3)) 0 (M2 246 4)) (248 + (M2 246 3)) 1 ((up2 (up2 M2 246 3 ((M2 246 3) + 1)) (248 + (M2 246 3)) 0 (M2 246 4)) 246 5)) (6 + ((up2 (up2 (up2 M2 246 3 ((M2 246 3) + 1)) (248 + (M2 246 3)) 0 (M2 246 4)) (248 + (M2 246 3)) 1 ((up2 (up2 M2 246 3 ((M2 246 3) + 1)) (248 + (M2 246 3)) 0 (M2 246 4)) 246 5)) 246 4)) ((up2 (up2 (up2 M2 246 3 ((M2 246 3) + 1)) (248 + (M2 246 3)) 0 (M2 246 4)) (248 + (M2 246 3)) 1 ((up2 (up2 M2 246 3 ((M2 246 3) + 1)) (248 + (M2 246 3)) 0 (M2 246 4)) 246 5)) 246 6))) (248 + (M2 246 3)) 3 l1) (248 + (M2 246 3)) 4 ((up2 (up2 (up2 (up2 (up2 M2 246 3 ((M2 246 3) + 1)) (248 + (M2 246 3)) 0 (M2 246 4)) (248 + (M2 246 3)) 1 ((up2 (up2 M2 246 3 ((M2 246 3) + 1)) (248 + (M2 246 3)) 0 (M2 246 4)) 246 5)) (248 + (M2 246 3)) 2 ((up2 (up2 (up2 M2 246 3 ((M2 246 3) + 1)) (248 + (M2 246 3)) 0 (M2 246 4)) (248 + (M2 246 3)) 1 ((up2 (up2 M2 246 3 ((M2 246 3) + 1)) (248 + (M2 246 3)) 0 (M2 246 4)) 246 5)) (6 + ((up2 (up2 (up2 M2 246 3 ((M2 246 3) + 1)) (248 + (M2 246 3)) 0 (M2 246 4)) (248 + (M2 246 3)) 1 ((up2 (up2 M2 246 3 ((M2 246 3) + 1)) (248 + (M2 246 3)) 0 (M2 246 4)) 246 5)) 246 4)) ((up2 (up2 (up2 M2 246 3 ((M2 246 3) + 1)) (248 + (M2 246 3)) 0 (M2 246 4)) (248 + (M2 246 3)) 1 ((up2 (up2 M2 246 3 ((M2 246 3) + 1)) (248 + (M2 246 3)) 0 (M2 246 4)) 246 5)) 246 6))) (248 + (M2 246 3)) 3 l1) (15 + ((((up2 (up2 (up2 (up2 (up2 M2 246 3 ((M2 246 3) + 1)) (248 + (M2 246 3)) 0 (M2 246 4)) (248 + (M2 246 3)) 1 ((up2 (up2 M2 246 3 ((M2 246 3) + 1)) (248 + (M2 246 3)) 0 (M2 246 4)) 246 5)) (248 + (M2 246 3)) 2 ((up2 (up2 (up2 M2 246 3 ((M2 246 3) + 1)) (248 + (M2 246 3)) 0 (M2 246 4)) (248 + (M2 246 3)) 1 ((up2 (up2 M2 246 3 ((M2 246 3) + 1)) (248 + (M2 246 3)) 0 (M2 246 4)) 246 5)) (6 + ((up2 (up2 (up2 M2 246 3 ((M2 246 3) + 1)) (248 + (M2 246 3)) 0 (M2 246 4)) (248 + (M2 246 3)) 1 ((up2 (up2 M2 246 3 ((M2 246 3) + 1)) (248 + (M2 246 3)) 0 (M2 246 4)) 246 5)) 246 4)) ((up2 (up2 (up2 M2 246 3 ((M2 246 3) + 1)) (248 + (M2 246 3)) 0 (M2 246 4)) (248 + (M2 246 3)) 1 ((up2 (up2 M2 246 3 ((M2 246 3) + 1)) (248 + (M2 246 3)) 0 (M2 246 4)) 246 5)) 246 6))) (248 + (M2 246 3)) 3 l1) 246 4) * 6) + ((up2 (up2 (up2 (up2 (up2 M2 246 3 ((M2 246 3) + 1)) (248 + (M2 246 3)) 0 (M2 246 4)) (248 + (M2 246 3)) 1 ((up2 (up2 M2 246 3 ((M2 246 3) + 1)) (248 + (M2 246 3)) 0 (M2 246 4)) 246 5)) (248 + (M2 246 3)) 2 ((up2 (up2 (up2 M2 246 3 ((M2 246 3) + 1)) (248 + (M2 246 3)) 0 (M2 246 4)) (248 + (M2 246 3)) 1 ((up2 (up2 M2 246 3 ((M2 246 3) + 1)) (248 + (M2 246 3)) 0 (M2 246 4)) 246 5)) (6 + ((up2 (up2 (up2 M2 246 3 ((M2 246 3) + 1)) (248 + (M2 246 3)) 0 (M2 246 4)) (248 + (M2 246 3)) 1 ((up2 (up2 M2 246 3 ((M2 246 3) + 1)) (248 + (M2 246 3)) 0 (M2 246 4)) 246 5)) 246 4)) ((up2 (up2 (up2 M2 246 3 ((M2 246 3) + 1)) (248 + (M2 246 3)) 0 (M2 246 4)) (248 + (M2 246 3)) 1 ((up2 (up2 M2 246 3 ((M2 246 3) + 1)) (248 + (M2 246 3)) 0 (M2 246 4)) 246 5)) 246 6))) (248 + (M2 246 3)) 3 l1) 246 5))) ((up2 (up2 (up2 (up2 (up2 M2 246 3 ((M2 246 3) + 1)) (248 + (M2 246 3)) 0 (M2 246 4)) (248 + (M2 246 3)) 1 ((up2 (up2 M2 246 3 ((M2 246 3) + 1)) (248 + (M2 246 3)) 0 (M2 246 4)) 246 5)) (248 + (M2 246 3)) 2 ((up2 (up2 (up2 M2 246 3 ((M2 246 3) + 1)) (248 + (M2 246 3)) 0 (M2 246 4)) (248 + (M2 246 3)) 1 ((up2 (up2 M2 246 3 ((M2 246 3) + 1)) (248 + (M2 246 3)) 0 (M2 246 4)) 246 5)) (6 + ((up2 (up2 (up2 M2 246 3 ((M2 246 3) + 1)) (248 + (M2 246 3)) 0 (M2 246 4)) (248 + (M2 246 3)) 1 ((up2 (up2 M2 246 3 ((M2 246 3) + 1)) (248 + (M2 246 3)) 0 (M2 246 4)) 246 5)) 246 4)) ((up2 (up2 (up2 M2 246 3 ((M2 246 3) + 1)) (248 + (M2 246 3)) 0 (M2 246 4)) (248 + (M2 246 3)) 1 ((up2 (up2 M2 246 3 ((M2 246 3) + 1)) (248 + (M2 246 3)) 0 (M2 246 4)) 246 5)) 246 6))) (248 + (M2 246 3)) 3 l1) 246 6))) 246 4) * 6) + ((up2 (up2 (up2 (up2 (up2 (up2 M2 246 3 ((M2 246 3) + 1)) (248 + (M2 246 3)) 0 (M2 246 4)) (248 + (M2 246 3)) 1 ((up2 (up2 M2 246 3 ((M2 246 3) + 1)) (248 + (M2 246 3)) 0 (M2 246 4)) 246 5)) (248 + (M2 246 3)) 2 ((up2 (up2 (up2 M2 246 3 ((M2 246 3) + 1)) (248 + (M2 246 3)) 0 (M2 246 4)) (248 + (M2 246 3)) 1 ((up2 (up2 M2 246 3 ((M2 246 3) + 1)) (248 + (M2 246 3)) 0 (M2 246 4)) 246 5)) (6 + ((up2 (up2 (up2 M2 246 3 ((M2 246 3) + 1)) (248 + (M2 246 3)) 0 (M2 246 4)) (248 + (M2 246 3)) 1 ((up2 (up2 M2 246 3 ((M2 246 3) + 1)) (248 + (M2 246 3)) 0 (M2 246 4)) 246 5)) 246 4)) ((up2 (up2 (up2 M2 246 3 ((M2 246 3) + 1)) (248 + (M2 246 3)) 0 (M2 246 4)) (248 + (M2 246 3)) 1 ((up2 (up2 M2 246 3 ((M2 246 3) + 1)) (248 + (M2 246 3)) 0 (M2 246 4)) 246 5)) 246 6))) (248 + (M2 246 3)) 3 l1) (248 + (M2 246 3)) 4 ((up2 (up2 (up2 (up2 (up2 M2 246 3 ((M2 246 3) + 1)) (248 + (M2 246 3)) 0 (M2 246 4)) (248 + (M2 246 3)) 1 ((up2 (up2 M2 246 3 ((M2 246 3) + 1)) (248 + (M2 246 3)) 0 (M2 246 4)) 246 5)) (248 + (M2 246 3)) 2 ((up2 (up2 (up2 M2 246 3 ((M2 246 3) + 1)) (248 + (M2 246 3)) 0 (M2 246 4)) (248 + (M2 246 3)) 1 ((up2 (up2 M2 246 3 ((M2 246 3) + 1)) (248 + (M2 246 3)) 0 (M2 246 4)) 246 5)) (6 + ((up2 (up2 (up2 M2 246 3 ((M2 246 3) + 1)) (248 + (M2 246 3)) 0 (M2 246 4)) (248 + (M2 246 3)) 1 ((up2 (up2 M2 246 3 ((M2 246 3) + 1)) (248 + (M2 246 3)) 0 (M2 246 4)) 246 5)) 246 4)) ((up2 (up2 (up2 M2 246 3 ((M2 246 3) + 1)) (248 + (M2 246 3)) 0 (M2 246 4)) (248 + (M2 246 3)) 1 ((up2 (up2 M2 246 3 ((M2 246 3) + 1)) (248 + (M2 246 3)) 0 (M2 246 4)) 246 5)) 246 6))) (248 + (M2 246 3)) 3 l1) (15 + ((((up2 (up2 (up2 (up2 (up2 M2 246 3 ((M2 246 3) + 1)) (248 + (M2 246 3)) 0 (M2 246 4)) (248 + (M2 246 3)) 1 ((up2 (up2 M2 246 3 ((M2 246 3) + 1)) (248 + (M2 246 3)) 0 (M2 246 4)) 246 5)) (248 + (M2 246 3)) 2 ((up2 (up2 (up2 M2 246 3 ((M2 246 3) + 1)) (248 + (M2 246 3)) 0 (M2 246 4)) (248 + (M2 246 3)) 1 ((up2 (up2 M2 246 3 ((M2 246 3) + 1)) (248 + (M2 246 3)) 0 (M2 246 4)) 246 5)) (6 + ((up2 (up2 (up2 M2 246 3 ((M2 246 3) + 1)) (248 + (M2 246 3)) 0 (M2 246 4)) (248 + (M2 246 3)) 1 ((up2 (up2 M2 246 3 ((M2 246 3) + 1)) (248 + (M2 246 3)) 0 (M2 246 4)) 246 5)) 246 4)) ((up2 (up2 (up2 M2 246 3 ((M2 246 3) + 1)) (248 + (M2 246 3)) 0 (M2 246 4)) (248 + (M2 246 3)) 1 ((up2 (up2 M2 246 3 ((M2 246 3) + 1)) (248 + (M2 246 3)) 0 (M2 246 4)) 246 5)) 246 6))) (248 + (M2 246 3)) 3 l1) 246 4) * 6) + ((up2 (up2 (up2 (up2 (up2 M2 246 3 ((M2 246 3) + 1)) (248 + (M2 246 3)) 0 (M2 246 4)) (248 + (M2 246 3)) 1 ((up2 (up2 M2 246 3 ((M2 246 3) + 1)) (248 + (M2 246 3)) 0 (M2 246 4)) 246 5)) (248 + (M2 246 3)) 2 ((up2 (up2 (up2 M2 246 3 ((M2 246 3) + 1)) (248 + (M2 246 3)) 0 (M2 246 4)) (248 + (M2 246 3)) 1 ((up2 (up2 M2 246 3 ((M2 246 3) + 1)) (248 + (M2 246 3)) 0 (M2 246 4)) 246 5)) (6 + ((up2 (up2 (up2 M2 246 3 ((M2 246 3) + 1)) (248 + (M2 246 3)) 0 (M2 246 4)) (248 + (M2 246 3)) 1 ((up2 (up2 M2 246 3 ((M2 246 3) + 1)) (248 + (M2 246 3)) 0 (M2 246 4)) 246 5)) 246 4)) ((up2 (up2 (up2 M2 246 3 ((M2 246 3) + 1)) (248 + (M2 246 3)) 0 (M2 246 4)) (248 + (M2 246 3)) 1 ((up2 (up2 M2 246 3 ((M2 246 3) + 1)) (248 + (M2 246 3)) 0 (M2 246 4)) 246 5)) 246 6))) (248 + (M2 246 3)) 3 l1) 246 5))) ((up2 (up2 (up2 (up2 (up2 M2 246 3 ((M2 246 3) + 1)) (248 + (M2 246 3)) 0 (M2 246 4)) (248 + (M2 246 3)) 1 ((up2 (up2 M2 246 3 ((M2 246 3) + 1)) (248 + (M2 246 3)) 0 (M2 246 4)) 246 5)) (248 + (M2 246 3)) 2 ((up2 (up2 (up2 M2 246 3 ((M2 246 3) + 1)) (248 + (M2 246 3)) 0 (M2 246 4)) (248 + (M2 246 3)) 1 ((up2 (up2 M2 246 3 ((M2 246 3) + 1)) (248 + (M2 246 3)) 0 (M2 246 4)) 246 5)) (6 + ((up2 (up2 (up2 M2 246 3 ((M2 246 3) + 1)) (248 + (M2 246 3)) 0 (M2 246 4)) (248 + (M2 246 3)) 1 ((up2 (up2 M2 246 3 ((M2 246 3) + 1)) (248 + (M2 246 3)) 0 (M2 246 4)) 246 5)) 246 4)) ((up2 (up2 (up2 M2 246 3 ((M2 246 3) + 1)) (248 + (M2 246 3)) 0 (M2 246 4)) (248 + (M2 246 3)) 1 ((up2 (up2 M2 246 3 ((M2 246 3) + 1)) (248 + (M2 246 3)) 0 (M2 246 4)) 246 5)) 246 6))) (248 + (M2 246 3)) 3 l1) 246 6))) 246 5))) r1)) 246 6))]) (st := [(0, 6), (2, 248 + (M2 246 3))]) (st1 := fun r => [(0, r), (0, 6), (2, 248 + (M2 246 3))])  (pc := 148) dX5_addRide_148 ml_RX5_89 (by decide) (Nat.le_of_ble_eq_true rfl) rfl (fun _ => rfl) h (fun r23 M24 h => ?_)
      refine a_iast (pc := 151) dX5_addRide_151 hr6.1 hr6.2 (by decide) (by decide) ?_
      refine a_aload_n (pc := 152) dX5_addRide_152 hr6.1 rfl ?_
      refine a_iconst (pc := 153) dX5_addRide_153 (by decide) ?_
      refine a_iald (pc := 154) dX5_addRide_154 hr6.1 hr6.2 (by decide) (by decide) ?_
      refine a_eq (y := M24 (248 + (M2 246 3)) 2) (by simp [up2]) ?_
      exact a_ireti (pc := 155) dX5_addRide_155 rfl rfl (Nat.le_of_ble_eq_true rfl) ⟨rfl, h⟩
    · replace h := h.2 hc4
      refine a_iload_n (pc := 26) dX5_addRide_26 rfl ?_
      exact a_ireti (pc := 27) dX5_addRide_27 rfl rfl (Nat.le_of_ble_eq_true rfl) ⟨rfl, h⟩
theorem E_Route_addRide {l1 : Int} {M : Mem} {Q : Int → Mem → Prop} (h : AW mX5_addRide 0 [(2, 246), (0, l1), (9, 0), (9, 0)] M Q) : Calls mX5_addRide [(2, 246), (0, l1)] S0 M Q := calls_of (by decide) (by decide) (Nat.le_of_ble_eq_true rfl) rfl h
set_option maxRecDepth 100000 in
set_option maxHeartbeats 4000000 in
theorem B_Route_findBeginning_0 {l1 l2 l3 l4 : Int} (ha4 : isA l4 12) {M : Mem} {Q : Int → Mem → Prop} (h : (-2147483648 ≤ l3 - 1 ∧ l3 - 1 ≤ 2147483647) ∧ AW mX5_findBeginning 5 [(2, 246), (0, l1), (0, l2), (9, 0), (2, l4), (0, l3 - 1)] M Q) : AW mX5_findBeginning 0 [(2, 246), (0, l1), (0, l2), (0, l3), (2, l4), (9, 0)] M Q := by
  refine a_iload_n (pc := 0) dX5_findBeginning_0 rfl ?_
  refine a_iconst (pc := 1) dX5_findBeginning_1 (by decide) ?_
  have ho1 := h.1
  replace h := h.2
  refine a_isub (pc := 2) dX5_findBeginning_2 ho1 ?_
  refine a_istore (ls1 := [(2, 246), (0, l1), (0, l2), (0, l3), (2, l4), (0, l3 - 1)]) (pc := 3) dX5_findBeginning_3 (by decide) (hp1 (t := 2) rfl (by decide)) rfl ?_
  exact a_msk [true, true, true, false, true, true] rfl h
set_option maxRecDepth 100000 in
set_option maxHeartbeats 4000000 in
theorem B_Route_findBeginning_5 {l1 l2 l4 l5 : Int} (ha4 : isA l4 12) {M : Mem} {Q : Int → Mem → Prop} (h : ((l5 < 0 → Q 0 M) ∧ (¬ (l5 < 0) → ((0 : Int) ≤ l1 ∧ l1 < 8) ∧ ((0 : Int) ≤ l5 ∧ l5 < 6) ∧ ((0 : Int) ≤ M (6 + l1) l5 ∧ M (6 + l1) l5 < 12) ∧ (-2147483648 ≤ l1 * 6 ∧ l1 * 6 ≤ 2147483647) ∧ (-2147483648 ≤ (l1 * 6) + l2 ∧ (l1 * 6) + l2 ≤ 2147483647) ∧ ((0 : Int) ≤ (l1 * 6) + l2 ∧ (l1 * 6) + l2 < 48) ∧ (((M l4 (M (6 + l1) l5)) ≤ (M (15 + ((l1 * 6) + l2)) l5) → Q 1 (up2 (up2 (up2 M 246 4 l1) 246 5 l2) 246 6 l5)) ∧ (¬ ((M l4 (M (6 + l1) l5)) ≤ (M (15 + ((l1 * 6) + l2)) l5)) → (-2147483648 ≤ l5 + (-1) ∧ l5 + (-1) ≤ 2147483647) ∧ AW mX5_findBeginning 5 [(2, 246), (0, l1), (0, l2), (9, 0), (2, l4), (0, l5 + (-1))] M Q))))) : AW mX5_findBeginning 5 [(2, 246), (0, l1), (0, l2), (9, 0), (2, l4), (0, l5)] M Q := by
  refine a_iload (pc := 5) dX5_findBeginning_5 rfl ?_
  refine a_if_lt (tgt := 66) (pc := 7) dX5_findBeginning_7 (by decide) (fun hc1 => ?_) (fun hc1 => ?_)
  · replace h := h.1 hc1
    refine a_iconst (pc := 66) dX5_findBeginning_66 (by decide) ?_
    exact a_iretz (pc := 67) dX5_findBeginning_67 rfl rfl (Nat.le_of_ble_eq_true rfl) (by decide) ⟨rfl, h⟩
  · replace h := h.2 hc1
    refine a_aload (pc := 10) dX5_findBeginning_10 ha4.1 rfl ?_
    refine a_aload_n (pc := 12) dX5_findBeginning_12 (by decide) rfl ?_
    refine a_getR (y := 1) (pc := 13) dX5_findBeginning_13 fl_RX5_9 (by decide) s0_246 rfl rfl ?_
    refine a_getR (y := 5) (pc := 16) dX5_findBeginning_16 fl_RX5_83 (by decide) s0_1 rfl rfl ?_
    refine a_iload_n (pc := 19) dX5_findBeginning_19 rfl ?_
    have ho2 := h.1
    replace h := h.2
    have hr3 := rw_5 l1 ho2.1 ho2.2
    refine a_aald (y := 6 + l1) (pc := 20) dX5_findBeginning_20 (by decide) s0_5 ho2.1 ho2.2 (by omega) ?_
    refine a_iload (pc := 21) dX5_findBeginning_21 rfl ?_
    have ho4 := h.1
    replace h := h.2
    refine a_iald (pc := 23) dX5_findBeginning_23 hr3.1 hr3.2 ho4.1 ho4.2 ?_
    have ho5 := h.1
    replace h := h.2
    refine a_iald (pc := 24) dX5_findBeginning_24 ha4.1 ha4.2 ho5.1 ho5.2 ?_
    refine a_aload_n (pc := 25) dX5_findBeginning_25 (by decide) rfl ?_
    refine a_getR (y := 1) (pc := 26) dX5_findBeginning_26 fl_RX5_9 (by decide) s0_246 rfl rfl ?_
    refine a_iload_n (pc := 29) dX5_findBeginning_29 rfl ?_
    refine a_iload_n (pc := 30) dX5_findBeginning_30 rfl ?_
    refine a_iload (pc := 31) dX5_findBeginning_31 rfl ?_
    refine p_inlV (Ex := _) (As := [(0, l1), (0, l2), (0, l5)]) (st := [(0, M l4 (M (6 + l1) l5))]) (st1 := fun r => [(0, r), (0, M l4 (M (6 + l1) l5))])  (pc := 33) dX5_findBeginning_33 ml_RX5_75 (by decide) s0_1 rfl (by decide) (Nat.le_of_ble_eq_true rfl) rfl (fun _ => rfl) (by decide) (by decide) (Nat.le_of_ble_eq_true rfl) rfl ?_
    refine a_aload_n (pc := 0) dX3_minuteOf_0 (by decide) rfl ?_
    refine a_getR (y := 14) (pc := 1) dX3_minuteOf_1 fl_RX3_30 (by decide) s0_1 rfl rfl ?_
    refine a_iload_n (pc := 4) dX3_minuteOf_4 rfl ?_
    refine a_iload_n (pc := 5) dX3_minuteOf_5 rfl ?_
    refine p_inlS (Ex := _) (As := [(0, l1), (0, l2)]) (st := [(2, 14)]) (st1 := fun r => [(0, r), (2, 14)])  (pc := 6) dX3_minuteOf_6 ml_RX3_49 (by decide) (Nat.le_of_ble_eq_true rfl) rfl (fun _ => rfl) (by decide) (by decide) (Nat.le_of_ble_eq_true rfl) rfl ?_
    refine a_iload_n (pc := 0) dX3_rowOf_0 rfl ?_
    refine a_bipush (pc := 1) dX3_rowOf_1 (by decide) (by decide +kernel) ?_
    have ho6 := h.1
    replace h := h.2
    refine a_imul (pc := 3) dX3_rowOf_3 ho6 ?_
    refine a_iload_n (pc := 4) dX3_rowOf_4 rfl ?_
    have ho7 := h.1
    replace h := h.2
    refine a_iadd (pc := 5) dX3_rowOf_5 ho7 ?_
    refine a_ireti (pc := 6) dX3_rowOf_6 rfl rfl (Nat.le_of_ble_eq_true rfl) ⟨rfl, ?_⟩
    have ho8 := h.1
    replace h := h.2
    have hr9 := rw_14 ((l1 * 6) + l2) ho8.1 ho8.2
    refine a_aald (y := 15 + ((l1 * 6) + l2)) (pc := 9) dX3_minuteOf_9 (by decide) s0_14 ho8.1 ho8.2 (by omega) ?_
    refine a_iload_n (pc := 10) dX3_minuteOf_10 rfl ?_
    refine a_iald (pc := 11) dX3_minuteOf_11 hr9.1 hr9.2 ho4.1 ho4.2 ?_
    refine a_ireti (pc := 12) dX3_minuteOf_12 rfl rfl (Nat.le_of_ble_eq_true rfl) ⟨rfl, ?_⟩
    refine a_icmp_le (tgt := 42) (pc := 36) dX5_findBeginning_36 (by decide) (fun hc10 => ?_) (fun hc10 => ?_)
    · replace h := h.1 hc10
      refine a_aload_n (pc := 42) dX5_findBeginning_42 (by decide) rfl ?_
      refine a_iload_n (pc := 43) dX5_findBeginning_43 rfl ?_
      refine a_putI (y := 4) (pc := 44) dX5_findBeginning_44 fl_RX5_28 (by decide) s0_246 rfl rfl (tyX5_ok 4 (by decide)) rfl ?_
      refine a_aload_n (pc := 47) dX5_findBeginning_47 (by decide) rfl ?_
      refine a_iload_n (pc := 48) dX5_findBeginning_48 rfl ?_
      refine a_putI (y := 5) (pc := 49) dX5_findBeginning_49 fl_RX5_31 (by decide) s0_246 rfl rfl (tyX5_ok 5 (by decide)) rfl ?_
      refine a_aload_n (pc := 52) dX5_findBeginning_52 (by decide) rfl ?_
      refine a_iload (pc := 53) dX5_findBeginning_53 rfl ?_
      refine a_putI (y := 6) (pc := 55) dX5_findBeginning_55 fl_RX5_34 (by decide) s0_246 rfl rfl (tyX5_ok 6 (by decide)) rfl ?_
      refine a_iconst (pc := 58) dX5_findBeginning_58 (by decide) ?_
      exact a_iretz (pc := 59) dX5_findBeginning_59 rfl rfl (Nat.le_of_ble_eq_true rfl) (by decide) ⟨rfl, h⟩
    · replace h := h.2 hc10
      refine a_goto (tgt := 60) (pc := 39) dX5_findBeginning_39 (by decide) ?_
      have ho11 := h.1
      replace h := h.2
      refine a_iinc (ls1 := [(2, 246), (0, l1), (0, l2), (9, 0), (2, l4), (0, l5 + (-1))]) (pc := 60) dX5_findBeginning_60 rfl (by decide) (hp1 (t := 2) rfl (by decide)) ho11 rfl ?_
      refine a_goto (tgt := 5) (pc := 63) dX5_findBeginning_63 (by decide) ?_
      exact h
theorem E_Route_findBeginning {l1 l2 l3 l4 : Int} {M : Mem} {Q : Int → Mem → Prop} (h : AW mX5_findBeginning 0 [(2, 246), (0, l1), (0, l2), (0, l3), (2, l4), (9, 0)] M Q) : Calls mX5_findBeginning [(2, 246), (0, l1), (0, l2), (0, l3), (2, l4)] S0 M Q := calls_of (by decide) (by decide) (Nat.le_of_ble_eq_true rfl) rfl h
set_option maxRecDepth 100000 in
set_option maxHeartbeats 4000000 in
theorem B_Search_rideOne_0 {l1 l2 l3 l4 : Int} (ha3 : isA l3 12) (ha4 : isA l4 12) {M : Mem} {Q : Int → Mem → Prop} (h : AW mX6_rideOne 6 [(2, 229), (0, l1), (0, l2), (2, l3), (2, l4), (0, 0), (0, 0), (9, 0), (9, 0)] M Q) : AW mX6_rideOne 0 [(2, 229), (0, l1), (0, l2), (2, l3), (2, l4), (9, 0), (9, 0), (9, 0), (9, 0)] M Q := by
  refine a_iconst (pc := 0) dX6_rideOne_0 (by decide) ?_
  refine a_istore (ls1 := [(2, 229), (0, l1), (0, l2), (2, l3), (2, l4), (0, 0), (9, 0), (9, 0), (9, 0)]) (pc := 1) dX6_rideOne_1 (by decide) (hp1 (t := 2) rfl (by decide)) rfl ?_
  refine a_iconst (pc := 3) dX6_rideOne_3 (by decide) ?_
  refine a_istore (ls1 := [(2, 229), (0, l1), (0, l2), (2, l3), (2, l4), (0, 0), (0, 0), (9, 0), (9, 0)]) (pc := 4) dX6_rideOne_4 (by decide) (hp1 (t := 0) rfl (by decide)) rfl ?_
  exact h
set_option maxRecDepth 100000 in
set_option maxHeartbeats 4000000 in
theorem B_Search_rideOne_6 {l1 l2 l3 l4 l5 l6 : Int} (ha3 : isA l3 12) (ha4 : isA l4 12) {M : Mem} {Q : Int → Mem → Prop} (h : ((0 : Int) ≤ l1 ∧ l1 < 8) ∧ (((M 3 l1) ≤ l6 → Q 0 M) ∧ (¬ ((M 3 l1) ≤ l6) → ((0 : Int) ≤ l6 ∧ l6 < 6) ∧ (-2147483648 ≤ l1 * 6 ∧ l1 * 6 ≤ 2147483647) ∧ (-2147483648 ≤ (l1 * 6) + l2 ∧ (l1 * 6) + l2 ≤ 2147483647) ∧ ((0 : Int) ≤ (l1 * 6) + l2 ∧ (l1 * 6) + l2 < 48) ∧ ((l5 = 0 → ((0 : Int) ≤ M (6 + l1) l6 ∧ M (6 + l1) l6 < 12) ∧ (((M (15 + ((l1 * 6) + l2)) l6) < (M l3 (M (6 + l1) l6)) → (-2147483648 ≤ l6 + 1 ∧ l6 + 1 ≤ 2147483647) ∧ AW mX6_rideOne 6 [(2, 229), (0, l1), (0, l2), (2, l3), (2, l4), (0, l5), (0, l6 + 1), (9, 0), (9, 0)] M Q) ∧ (¬ ((M (15 + ((l1 * 6) + l2)) l6) < (M l3 (M (6 + l1) l6))) → (-2147483648 ≤ l6 + 1 ∧ l6 + 1 ≤ 2147483647) ∧ AW mX6_rideOne 6 [(2, 229), (0, l1), (0, l2), (2, l3), (2, l4), (0, 1), (0, l6 + 1), (9, 0), (9, 0)] M Q))) ∧ (¬ l5 = 0 → (((M (6 + l1) l6) = (M 229 5) → ((0 : Int) ≤ M (6 + l1) l6 ∧ M (6 + l1) l6 < 12) ∧ (((M (15 + ((l1 * 6) + l2)) l6) < (M l3 (M (6 + l1) l6)) → (-2147483648 ≤ l6 + 1 ∧ l6 + 1 ≤ 2147483647) ∧ AW mX6_rideOne 6 [(2, 229), (0, l1), (0, l2), (2, l3), (2, l4), (0, l5), (0, l6 + 1), (9, 0), (9, 0)] M Q) ∧ (¬ ((M (15 + ((l1 * 6) + l2)) l6) < (M l3 (M (6 + l1) l6))) → (-2147483648 ≤ l6 + 1 ∧ l6 + 1 ≤ 2147483647) ∧ AW mX6_rideOne 6 [(2, 229), (0, l1), (0, l2), (2, l3), (2, l4), (0, 1), (0, l6 + 1), (9, 0), (9, 0)] M Q))) ∧ (¬ (M (6 + l1) l6) = (M 229 5) → ((0 : Int) ≤ M (6 + l1) l6 ∧ M (6 + l1) l6 < 12) ∧ (((M l4 (M (6 + l1) l6)) ≤ (M (15 + ((l1 * 6) + l2)) l6) → (((M (15 + ((l1 * 6) + l2)) l6) < (M l3 (M (6 + l1) l6)) → (-2147483648 ≤ l6 + 1 ∧ l6 + 1 ≤ 2147483647) ∧ AW mX6_rideOne 6 [(2, 229), (0, l1), (0, l2), (2, l3), (2, l4), (0, l5), (0, l6 + 1), (9, 0), (9, 0)] M Q) ∧ (¬ ((M (15 + ((l1 * 6) + l2)) l6) < (M l3 (M (6 + l1) l6))) → (-2147483648 ≤ l6 + 1 ∧ l6 + 1 ≤ 2147483647) ∧ AW mX6_rideOne 6 [(2, 229), (0, l1), (0, l2), (2, l3), (2, l4), (0, 1), (0, l6 + 1), (9, 0), (9, 0)] M Q))) ∧ (¬ ((M l4 (M (6 + l1) l6)) ≤ (M (15 + ((l1 * 6) + l2)) l6)) → (((M (15 + ((l1 * 6) + l2)) l6) < ((up2 M l4 (M (6 + l1) l6) (M (15 + ((l1 * 6) + l2)) l6)) l3 (M (6 + l1) l6)) → (-2147483648 ≤ l6 + 1 ∧ l6 + 1 ≤ 2147483647) ∧ AW mX6_rideOne 6 [(2, 229), (0, l1), (0, l2), (2, l3), (2, l4), (0, l5), (0, l6 + 1), (9, 0), (9, 0)] (up2 M l4 (M (6 + l1) l6) (M (15 + ((l1 * 6) + l2)) l6)) Q) ∧ (¬ ((M (15 + ((l1 * 6) + l2)) l6) < ((up2 M l4 (M (6 + l1) l6) (M (15 + ((l1 * 6) + l2)) l6)) l3 (M (6 + l1) l6))) → (-2147483648 ≤ l6 + 1 ∧ l6 + 1 ≤ 2147483647) ∧ AW mX6_rideOne 6 [(2, 229), (0, l1), (0, l2), (2, l3), (2, l4), (0, 1), (0, l6 + 1), (9, 0), (9, 0)] (up2 M l4 (M (6 + l1) l6) (M (15 + ((l1 * 6) + l2)) l6)) Q))))))))))) : AW mX6_rideOne 6 [(2, 229), (0, l1), (0, l2), (2, l3), (2, l4), (0, l5), (0, l6), (9, 0), (9, 0)] M Q := by
  refine a_iload (pc := 6) dX6_rideOne_6 rfl ?_
  refine a_aload_n (pc := 8) dX6_rideOne_8 (by decide) rfl ?_
  refine a_getR (y := 1) (pc := 9) dX6_rideOne_9 fl_RX6_9 (by decide) s0_229 rfl rfl ?_
  refine a_getR (y := 3) (pc := 12) dX6_rideOne_12 fl_RX6_70 (by decide) s0_1 rfl rfl ?_
  refine a_iload_n (pc := 15) dX6_rideOne_15 rfl ?_
  have ho1 := h.1
  replace h := h.2
  refine a_iald (pc := 16) dX6_rideOne_16 (by decide) s0_3 ho1.1 ho1.2 ?_
  refine a_icmp_ge (tgt := 96) (pc := 17) dX6_rideOne_17 (by decide) (fun hc2 => ?_) (fun hc2 => ?_)
  · replace h := h.1 hc2
    exact a_vret (pc := 96) dX6_rideOne_96 rfl rfl (Nat.le_of_ble_eq_true rfl) ⟨rfl, h⟩
  · replace h := h.2 hc2
    refine a_aload_n (pc := 20) dX6_rideOne_20 (by decide) rfl ?_
    refine a_getR (y := 1) (pc := 21) dX6_rideOne_21 fl_RX6_9 (by decide) s0_229 rfl rfl ?_
    refine a_getR (y := 5) (pc := 24) dX6_rideOne_24 fl_RX6_73 (by decide) s0_1 rfl rfl ?_
    refine a_iload_n (pc := 27) dX6_rideOne_27 rfl ?_
    have hr3 := rw_5 l1 ho1.1 ho1.2
    refine a_aald (y := 6 + l1) (pc := 28) dX6_rideOne_28 (by decide) s0_5 ho1.1 ho1.2 (by omega) ?_
    refine a_iload (pc := 29) dX6_rideOne_29 rfl ?_
    have ho4 := h.1
    replace h := h.2
    refine a_iald (pc := 31) dX6_rideOne_31 hr3.1 hr3.2 ho4.1 ho4.2 ?_
    refine a_istore (ls1 := [(2, 229), (0, l1), (0, l2), (2, l3), (2, l4), (0, l5), (0, l6), (0, M (6 + l1) l6), (9, 0)]) (pc := 32) dX6_rideOne_32 (by decide) (hp1 (t := 0) rfl (by decide)) rfl ?_
    refine a_aload_n (pc := 34) dX6_rideOne_34 (by decide) rfl ?_
    refine a_getR (y := 1) (pc := 35) dX6_rideOne_35 fl_RX6_9 (by decide) s0_229 rfl rfl ?_
    refine a_iload_n (pc := 38) dX6_rideOne_38 rfl ?_
    refine a_iload_n (pc := 39) dX6_rideOne_39 rfl ?_
    refine a_iload (pc := 40) dX6_rideOne_40 rfl ?_
    refine p_inlV (Ex := _) (As := [(0, l1), (0, l2), (0, l6)]) (st := []) (st1 := fun r => [(0, r)])  (pc := 42) dX6_rideOne_42 ml_RX6_76 (by decide) s0_1 rfl (by decide) (Nat.le_of_ble_eq_true rfl) rfl (fun _ => rfl) (by decide) (by decide) (Nat.le_of_ble_eq_true rfl) rfl ?_
    refine a_aload_n (pc := 0) dX3_minuteOf_0 (by decide) rfl ?_
    refine a_getR (y := 14) (pc := 1) dX3_minuteOf_1 fl_RX3_30 (by decide) s0_1 rfl rfl ?_
    refine a_iload_n (pc := 4) dX3_minuteOf_4 rfl ?_
    refine a_iload_n (pc := 5) dX3_minuteOf_5 rfl ?_
    refine p_inlS (Ex := _) (As := [(0, l1), (0, l2)]) (st := [(2, 14)]) (st1 := fun r => [(0, r), (2, 14)])  (pc := 6) dX3_minuteOf_6 ml_RX3_49 (by decide) (Nat.le_of_ble_eq_true rfl) rfl (fun _ => rfl) (by decide) (by decide) (Nat.le_of_ble_eq_true rfl) rfl ?_
    refine a_iload_n (pc := 0) dX3_rowOf_0 rfl ?_
    refine a_bipush (pc := 1) dX3_rowOf_1 (by decide) (by decide +kernel) ?_
    have ho5 := h.1
    replace h := h.2
    refine a_imul (pc := 3) dX3_rowOf_3 ho5 ?_
    refine a_iload_n (pc := 4) dX3_rowOf_4 rfl ?_
    have ho6 := h.1
    replace h := h.2
    refine a_iadd (pc := 5) dX3_rowOf_5 ho6 ?_
    refine a_ireti (pc := 6) dX3_rowOf_6 rfl rfl (Nat.le_of_ble_eq_true rfl) ⟨rfl, ?_⟩
    have ho7 := h.1
    replace h := h.2
    have hr8 := rw_14 ((l1 * 6) + l2) ho7.1 ho7.2
    refine a_aald (y := 15 + ((l1 * 6) + l2)) (pc := 9) dX3_minuteOf_9 (by decide) s0_14 ho7.1 ho7.2 (by omega) ?_
    refine a_iload_n (pc := 10) dX3_minuteOf_10 rfl ?_
    refine a_iald (pc := 11) dX3_minuteOf_11 hr8.1 hr8.2 ho4.1 ho4.2 ?_
    refine a_ireti (pc := 12) dX3_minuteOf_12 rfl rfl (Nat.le_of_ble_eq_true rfl) ⟨rfl, ?_⟩
    refine a_istore (ls1 := [(2, 229), (0, l1), (0, l2), (2, l3), (2, l4), (0, l5), (0, l6), (0, M (6 + l1) l6), (0, M (15 + ((l1 * 6) + l2)) l6)]) (pc := 45) dX6_rideOne_45 (by decide) (hp1 (t := 0) rfl (by decide)) rfl ?_
    refine a_iload (pc := 47) dX6_rideOne_47 rfl ?_
    refine a_if_eq (tgt := 78) (pc := 49) dX6_rideOne_49 (by decide) (fun hc9 => ?_) (fun hc9 => ?_)
    · replace h := h.1 hc9
      refine a_aload_n (pc := 78) dX6_rideOne_78 ha3.1 rfl ?_
      refine a_iload (pc := 79) dX6_rideOne_79 rfl ?_
      have ho10 := h.1
      replace h := h.2
      refine a_iald (pc := 81) dX6_rideOne_81 ha3.1 ha3.2 ho10.1 ho10.2 ?_
      refine a_iload (pc := 82) dX6_rideOne_82 rfl ?_
      refine a_icmp_gt (tgt := 90) (pc := 84) dX6_rideOne_84 (by decide) (fun hc11 => ?_) (fun hc11 => ?_)
      · replace h := h.1 hc11
        have ho12 := h.1
        replace h := h.2
        refine a_iinc (ls1 := [(2, 229), (0, l1), (0, l2), (2, l3), (2, l4), (0, l5), (0, l6 + 1), (0, M (6 + l1) l6), (0, M (15 + ((l1 * 6) + l2)) l6)]) (pc := 90) dX6_rideOne_90 rfl (by decide) (hp1 (t := 0) rfl (by decide)) ho12 rfl ?_
        refine a_goto (tgt := 6) (pc := 93) dX6_rideOne_93 (by decide) ?_
        exact a_msk [true, true, true, true, true, true, true, false, false] rfl h
      · replace h := h.2 hc11
        refine a_iconst (pc := 87) dX6_rideOne_87 (by decide) ?_
        refine a_istore (ls1 := [(2, 229), (0, l1), (0, l2), (2, l3), (2, l4), (0, 1), (0, l6), (0, M (6 + l1) l6), (0, M (15 + ((l1 * 6) + l2)) l6)]) (pc := 88) dX6_rideOne_88 (by decide) (hp1 (t := 2) rfl (by decide)) rfl ?_
        have ho13 := h.1
        replace h := h.2
        refine a_iinc (ls1 := [(2, 229), (0, l1), (0, l2), (2, l3), (2, l4), (0, 1), (0, l6 + 1), (0, M (6 + l1) l6), (0, M (15 + ((l1 * 6) + l2)) l6)]) (pc := 90) dX6_rideOne_90 rfl (by decide) (hp1 (t := 0) rfl (by decide)) ho13 rfl ?_
        refine a_goto (tgt := 6) (pc := 93) dX6_rideOne_93 (by decide) ?_
        exact a_msk [true, true, true, true, true, true, true, false, false] rfl h
    · replace h := h.2 hc9
      refine a_iload (pc := 52) dX6_rideOne_52 rfl ?_
      refine a_aload_n (pc := 54) dX6_rideOne_54 (by decide) rfl ?_
      refine a_getI (y := 5) (pc := 55) dX6_rideOne_55 fl_RX6_33 (by decide) s0_229 (Or.inl rfl) rfl ?_
      refine a_icmp_eq (tgt := 78) (pc := 58) dX6_rideOne_58 (by decide) (fun hc14 => ?_) (fun hc14 => ?_)
      · replace h := h.1 hc14
        refine a_aload_n (pc := 78) dX6_rideOne_78 ha3.1 rfl ?_
        refine a_iload (pc := 79) dX6_rideOne_79 rfl ?_
        have ho15 := h.1
        replace h := h.2
        refine a_iald (pc := 81) dX6_rideOne_81 ha3.1 ha3.2 ho15.1 ho15.2 ?_
        refine a_iload (pc := 82) dX6_rideOne_82 rfl ?_
        refine a_icmp_gt (tgt := 90) (pc := 84) dX6_rideOne_84 (by decide) (fun hc16 => ?_) (fun hc16 => ?_)
        · replace h := h.1 hc16
          have ho17 := h.1
          replace h := h.2
          refine a_iinc (ls1 := [(2, 229), (0, l1), (0, l2), (2, l3), (2, l4), (0, l5), (0, l6 + 1), (0, M (6 + l1) l6), (0, M (15 + ((l1 * 6) + l2)) l6)]) (pc := 90) dX6_rideOne_90 rfl (by decide) (hp1 (t := 0) rfl (by decide)) ho17 rfl ?_
          refine a_goto (tgt := 6) (pc := 93) dX6_rideOne_93 (by decide) ?_
          exact a_msk [true, true, true, true, true, true, true, false, false] rfl h
        · replace h := h.2 hc16
          refine a_iconst (pc := 87) dX6_rideOne_87 (by decide) ?_
          refine a_istore (ls1 := [(2, 229), (0, l1), (0, l2), (2, l3), (2, l4), (0, 1), (0, l6), (0, M (6 + l1) l6), (0, M (15 + ((l1 * 6) + l2)) l6)]) (pc := 88) dX6_rideOne_88 (by decide) (hp1 (t := 2) rfl (by decide)) rfl ?_
          have ho18 := h.1
          replace h := h.2
          refine a_iinc (ls1 := [(2, 229), (0, l1), (0, l2), (2, l3), (2, l4), (0, 1), (0, l6 + 1), (0, M (6 + l1) l6), (0, M (15 + ((l1 * 6) + l2)) l6)]) (pc := 90) dX6_rideOne_90 rfl (by decide) (hp1 (t := 0) rfl (by decide)) ho18 rfl ?_
          refine a_goto (tgt := 6) (pc := 93) dX6_rideOne_93 (by decide) ?_
          exact a_msk [true, true, true, true, true, true, true, false, false] rfl h
      · replace h := h.2 hc14
        refine a_iload (pc := 61) dX6_rideOne_61 rfl ?_
        refine a_aload (pc := 63) dX6_rideOne_63 ha4.1 rfl ?_
        refine a_iload (pc := 65) dX6_rideOne_65 rfl ?_
        have ho19 := h.1
        replace h := h.2
        refine a_iald (pc := 67) dX6_rideOne_67 ha4.1 ha4.2 ho19.1 ho19.2 ?_
        refine a_icmp_ge (tgt := 78) (pc := 68) dX6_rideOne_68 (by decide) (fun hc20 => ?_) (fun hc20 => ?_)
        · replace h := h.1 hc20
          refine a_aload_n (pc := 78) dX6_rideOne_78 ha3.1 rfl ?_
          refine a_iload (pc := 79) dX6_rideOne_79 rfl ?_
          refine a_iald (pc := 81) dX6_rideOne_81 ha3.1 ha3.2 ho19.1 ho19.2 ?_
          refine a_iload (pc := 82) dX6_rideOne_82 rfl ?_
          refine a_icmp_gt (tgt := 90) (pc := 84) dX6_rideOne_84 (by decide) (fun hc21 => ?_) (fun hc21 => ?_)
          · replace h := h.1 hc21
            have ho22 := h.1
            replace h := h.2
            refine a_iinc (ls1 := [(2, 229), (0, l1), (0, l2), (2, l3), (2, l4), (0, l5), (0, l6 + 1), (0, M (6 + l1) l6), (0, M (15 + ((l1 * 6) + l2)) l6)]) (pc := 90) dX6_rideOne_90 rfl (by decide) (hp1 (t := 0) rfl (by decide)) ho22 rfl ?_
            refine a_goto (tgt := 6) (pc := 93) dX6_rideOne_93 (by decide) ?_
            exact a_msk [true, true, true, true, true, true, true, false, false] rfl h
          · replace h := h.2 hc21
            refine a_iconst (pc := 87) dX6_rideOne_87 (by decide) ?_
            refine a_istore (ls1 := [(2, 229), (0, l1), (0, l2), (2, l3), (2, l4), (0, 1), (0, l6), (0, M (6 + l1) l6), (0, M (15 + ((l1 * 6) + l2)) l6)]) (pc := 88) dX6_rideOne_88 (by decide) (hp1 (t := 2) rfl (by decide)) rfl ?_
            have ho23 := h.1
            replace h := h.2
            refine a_iinc (ls1 := [(2, 229), (0, l1), (0, l2), (2, l3), (2, l4), (0, 1), (0, l6 + 1), (0, M (6 + l1) l6), (0, M (15 + ((l1 * 6) + l2)) l6)]) (pc := 90) dX6_rideOne_90 rfl (by decide) (hp1 (t := 0) rfl (by decide)) ho23 rfl ?_
            refine a_goto (tgt := 6) (pc := 93) dX6_rideOne_93 (by decide) ?_
            exact a_msk [true, true, true, true, true, true, true, false, false] rfl h
        · replace h := h.2 hc20
          refine a_aload (pc := 71) dX6_rideOne_71 ha4.1 rfl ?_
          refine a_iload (pc := 73) dX6_rideOne_73 rfl ?_
          refine a_iload (pc := 75) dX6_rideOne_75 rfl ?_
          refine a_iast (pc := 77) dX6_rideOne_77 ha4.1 ha4.2 ho19.1 ho19.2 ?_
          refine a_aload_n (pc := 78) dX6_rideOne_78 ha3.1 rfl ?_
          refine a_iload (pc := 79) dX6_rideOne_79 rfl ?_
          refine a_iald (pc := 81) dX6_rideOne_81 ha3.1 ha3.2 ho19.1 ho19.2 ?_
          refine a_iload (pc := 82) dX6_rideOne_82 rfl ?_
          refine a_icmp_gt (tgt := 90) (pc := 84) dX6_rideOne_84 (by decide) (fun hc24 => ?_) (fun hc24 => ?_)
          · replace h := h.1 hc24
            have ho25 := h.1
            replace h := h.2
            refine a_iinc (ls1 := [(2, 229), (0, l1), (0, l2), (2, l3), (2, l4), (0, l5), (0, l6 + 1), (0, M (6 + l1) l6), (0, M (15 + ((l1 * 6) + l2)) l6)]) (pc := 90) dX6_rideOne_90 rfl (by decide) (hp1 (t := 0) rfl (by decide)) ho25 rfl ?_
            refine a_goto (tgt := 6) (pc := 93) dX6_rideOne_93 (by decide) ?_
            exact a_msk [true, true, true, true, true, true, true, false, false] rfl h
          · replace h := h.2 hc24
            refine a_iconst (pc := 87) dX6_rideOne_87 (by decide) ?_
            refine a_istore (ls1 := [(2, 229), (0, l1), (0, l2), (2, l3), (2, l4), (0, 1), (0, l6), (0, M (6 + l1) l6), (0, M (15 + ((l1 * 6) + l2)) l6)]) (pc := 88) dX6_rideOne_88 (by decide) (hp1 (t := 2) rfl (by decide)) rfl ?_
            have ho26 := h.1
            replace h := h.2
            refine a_iinc (ls1 := [(2, 229), (0, l1), (0, l2), (2, l3), (2, l4), (0, 1), (0, l6 + 1), (0, M (6 + l1) l6), (0, M (15 + ((l1 * 6) + l2)) l6)]) (pc := 90) dX6_rideOne_90 rfl (by decide) (hp1 (t := 0) rfl (by decide)) ho26 rfl ?_
            refine a_goto (tgt := 6) (pc := 93) dX6_rideOne_93 (by decide) ?_
            exact a_msk [true, true, true, true, true, true, true, false, false] rfl h
theorem E_Search_rideOne {l1 l2 l3 l4 : Int} {M : Mem} {Q : Int → Mem → Prop} (h : AW mX6_rideOne 0 [(2, 229), (0, l1), (0, l2), (2, l3), (2, l4), (9, 0), (9, 0), (9, 0), (9, 0)] M Q) : Calls mX6_rideOne [(2, 229), (0, l1), (0, l2), (2, l3), (2, l4)] S0 M Q := calls_of (by decide) (by decide) (Nat.le_of_ble_eq_true rfl) rfl h
set_option maxRecDepth 100000 in
set_option maxHeartbeats 4000000 in
theorem B_Net_countLoneStops_0 {M : Mem} {Q : Int → Mem → Prop} (h : AW mX3_countLoneStops 4 [(2, 1), (0, 0), (0, 0)] M Q) : AW mX3_countLoneStops 0 [(2, 1), (9, 0), (9, 0)] M Q := by
  refine a_iconst (pc := 0) dX3_countLoneStops_0 (by decide) ?_
  refine a_istore_n (ls1 := [(2, 1), (0, 0), (9, 0)]) (pc := 1) dX3_countLoneStops_1 (by decide) (hp1 (t := 2) rfl (by decide)) rfl ?_
  refine a_iconst (pc := 2) dX3_countLoneStops_2 (by decide) ?_
  refine a_istore_n (ls1 := [(2, 1), (0, 0), (0, 0)]) (pc := 3) dX3_countLoneStops_3 (by decide) (hp1 (t := 0) rfl (by decide)) rfl ?_
  exact h
set_option maxRecDepth 100000 in
set_option maxHeartbeats 4000000 in
theorem B_Net_countLoneStops_4 {l1 l2 : Int} {M : Mem} {Q : Int → Mem → Prop} (h : ((12 ≤ l2 → Q l1 M) ∧ (¬ (12 ≤ l2) → Calls mX3_isServed [(2, 1), (0, l2)] S0 M (fun r2 M3 => ((¬ r2 = 0 → (-2147483648 ≤ l2 + 1 ∧ l2 + 1 ≤ 2147483647) ∧ AW mX3_countLoneStops 4 [(2, 1), (0, l1), (0, l2 + 1)] M3 Q) ∧ (r2 = 0 → (-2147483648 ≤ l1 + 1 ∧ l1 + 1 ≤ 2147483647) ∧ (-2147483648 ≤ l2 + 1 ∧ l2 + 1 ≤ 2147483647) ∧ AW mX3_countLoneStops 4 [(2, 1), (0, l1 + 1), (0, l2 + 1)] M3 Q)))))) : AW mX3_countLoneStops 4 [(2, 1), (0, l1), (0, l2)] M Q := by
  refine a_iload_n (pc := 4) dX3_countLoneStops_4 rfl ?_
  refine a_bipush (pc := 5) dX3_countLoneStops_5 (by decide) (by decide +kernel) ?_
  refine a_icmp_ge (tgt := 27) (pc := 7) dX3_countLoneStops_7 (by decide) (fun hc1 => ?_) (fun hc1 => ?_)
  · replace h := h.1 hc1
    refine a_iload_n (pc := 27) dX3_countLoneStops_27 rfl ?_
    exact a_ireti (pc := 28) dX3_countLoneStops_28 rfl rfl (Nat.le_of_ble_eq_true rfl) ⟨rfl, h⟩
  · replace h := h.2 hc1
    refine a_aload_n (pc := 10) dX3_countLoneStops_10 (by decide) rfl ?_
    refine a_iload_n (pc := 11) dX3_countLoneStops_11 rfl ?_
    refine p_callV (As := [(0, l2)]) (st := []) (st1 := fun r => [(0, r)])  (pc := 12) dX3_countLoneStops_12 ml_RX3_66 (by decide) s0_1 rfl (by decide) (Nat.le_of_ble_eq_true rfl) rfl (fun _ => rfl) h (fun r2 M3 h => ?_)
    refine a_if_ne (tgt := 21) (pc := 15) dX3_countLoneStops_15 (by decide) (fun hc4 => ?_) (fun hc4 => ?_)
    · replace h := h.1 hc4
      have ho5 := h.1
      replace h := h.2
      refine a_iinc (ls1 := [(2, 1), (0, l1), (0, l2 + 1)]) (pc := 21) dX3_countLoneStops_21 rfl (by decide) (hp1 (t := 0) rfl (by decide)) ho5 rfl ?_
      refine a_goto (tgt := 4) (pc := 24) dX3_countLoneStops_24 (by decide) ?_
      exact h
    · replace h := h.2 hc4
      have ho6 := h.1
      replace h := h.2
      refine a_iinc (ls1 := [(2, 1), (0, l1 + 1), (0, l2)]) (pc := 18) dX3_countLoneStops_18 rfl (by decide) (hp1 (t := 2) rfl (by decide)) ho6 rfl ?_
      have ho7 := h.1
      replace h := h.2
      refine a_iinc (ls1 := [(2, 1), (0, l1 + 1), (0, l2 + 1)]) (pc := 21) dX3_countLoneStops_21 rfl (by decide) (hp1 (t := 0) rfl (by decide)) ho7 rfl ?_
      refine a_goto (tgt := 4) (pc := 24) dX3_countLoneStops_24 (by decide) ?_
      exact h
theorem E_Net_countLoneStops {M : Mem} {Q : Int → Mem → Prop} (h : AW mX3_countLoneStops 0 [(2, 1), (9, 0), (9, 0)] M Q) : Calls mX3_countLoneStops [(2, 1)] S0 M Q := calls_of (by decide) (by decide) (Nat.le_of_ble_eq_true rfl) rfl h
