set_option maxRecDepth 100000 in
set_option maxHeartbeats 4000000 in
theorem law_begin {L : Nat} {xs : Nat → Int32} {Q : Int → Shp → Mem → Prop} (h : AWG mL_law (ExL L xs) 299 5307 18 [(3, 0), (2, 0), (2, 275), (0, 0)] [] S0 M0 Q) : AWG mL_law (ExL L xs) 0 0 0 [(3, 0), (9, 0), (9, 0), (9, 0)] [] [] (fun _ _ => 0) Q := by
  show AWG mL_law (ExL L xs) 0 0 0 _ [] sh_0 mm_0 Q
  refine a_new (x := 0) (S1 := sh_1) (pc := 0) dL_law_0 cn_RL_7 (by decide +kernel) (by decide) rfl ?_
  refine a_dup (pc := 3) dL_law_3 (by decide) ?_
  refine q_inlI (Ex := _) (k1 := 275) (n1 := 2666) (As := []) (st := [(2, 0)]) (st1 := fun r => [(2, 0)]) (pc := 4) dL_law_4 ml_RL_9 (by decide) (by decide) (Nat.le_of_ble_eq_true rfl) rfl rfl rfl (fun _ => rfl) (by decide) (by decide) (Nat.le_of_ble_eq_true rfl) rfl ?_
  refine a_aload_n (pc := 0) dX8_init_0 (by decide) rfl ?_
  refine a_obj (pc := 1) dX8_init_1 ol_RX8 w_oi w_oc (by decide) (by decide) (by decide) (Nat.le_of_ble_eq_true rfl) ?_
  refine a_aload_n (pc := 4) dX8_init_4 (by decide) rfl ?_
  refine a_new (x := 1) (S1 := sh_2) (pc := 5) dX8_init_5 cn_RX8_7 (by decide +kernel) (by decide) rfl ?_
  refine a_dup (pc := 8) dX8_init_8 (by decide) ?_
  refine q_inlI (Ex := _) (k1 := 76) (n1 := 628) (As := []) (st := [(2, 1), (2, 0)]) (st1 := fun r => [(2, 1), (2, 0)]) (pc := 9) dX8_init_9 ml_RX8_9 (by decide) (by decide) (Nat.le_of_ble_eq_true rfl) rfl rfl rfl (fun _ => rfl) (by decide) (by decide) (Nat.le_of_ble_eq_true rfl) rfl ?_
  refine a_aload_n (pc := 0) dX3_init_0 (by decide) rfl ?_
  refine a_obj (pc := 1) dX3_init_1 ol_RX3 w_oi w_oc (by decide) (by decide) (by decide) (Nat.le_of_ble_eq_true rfl) ?_
  refine a_aload_n (pc := 4) dX3_init_4 (by decide) rfl ?_
  refine a_iconst (pc := 5) dX3_init_5 (by decide) ?_
  refine a_putI (y := 0) (rs := [(-1), (-1), (-1), (-1), (-1), (-1), (-1), (-1)]) (pc := 6) dX3_init_6 fl_RX3_9 (by decide) (by decide +kernel) rfl rfl (tyX3_ok 0 (by decide)) rfl ?_
  rw [show up2 mm_0 1 0 0 = mm_1 from rfl]
  refine a_aload_n (pc := 9) dX3_init_9 (by decide) rfl ?_
  refine a_bipush (pc := 10) dX3_init_10 (by decide) (by decide +kernel) ?_
  refine a_newA (N := 8) (t := 0) (x := 2) (S1 := sh_3) (pc := 12) dX3_init_12 (Or.inl ⟨rfl, rfl⟩) w_ai rfl (by decide) (by decide +kernel) (by decide) rfl ?_
  refine a_putR (rs := [(-1), (-1), (-1), (-1), (-1), (-1), (-1), (-1)]) (S1 := sh_4) (pc := 14) dX3_init_14 fl_RX3_15 (by decide) (by decide +kernel) rfl (by decide) rfl rfl rfl (gt_1 36 rfl rfl) (tyX3_ok 1 (by decide)) (fun _ => ⟨rfl, rfl⟩) (by decide) rfl ?_
  refine a_aload_n (pc := 17) dX3_init_17 (by decide) rfl ?_
  refine a_bipush (pc := 18) dX3_init_18 (by decide) (by decide +kernel) ?_
  refine a_newA (N := 8) (t := 0) (x := 3) (S1 := sh_5) (pc := 20) dX3_init_20 (Or.inl ⟨rfl, rfl⟩) w_ai rfl (by decide) (by decide +kernel) (by decide) rfl ?_
  refine a_putR (rs := [(-1), 2, (-1), (-1), (-1), (-1), (-1), (-1)]) (S1 := sh_6) (pc := 22) dX3_init_22 fl_RX3_19 (by decide) (by decide +kernel) rfl (by decide) rfl rfl rfl (gt_1 39 rfl rfl) (tyX3_ok 2 (by decide)) (fun _ => ⟨rfl, rfl⟩) (by decide) rfl ?_
  refine a_aload_n (pc := 25) dX3_init_25 (by decide) rfl ?_
  refine a_bipush (pc := 26) dX3_init_26 (by decide) (by decide +kernel) ?_
  refine a_newA (N := 8) (t := 0) (x := 4) (S1 := sh_7) (pc := 28) dX3_init_28 (Or.inl ⟨rfl, rfl⟩) w_ai rfl (by decide) (by decide +kernel) (by decide) rfl ?_
  refine a_putR (rs := [(-1), 2, 3, (-1), (-1), (-1), (-1), (-1)]) (S1 := sh_8) (pc := 30) dX3_init_30 fl_RX3_22 (by decide) (by decide +kernel) rfl (by decide) rfl rfl rfl (gt_1 44 rfl rfl) (tyX3_ok 3 (by decide)) (fun _ => ⟨rfl, rfl⟩) (by decide) rfl ?_
  refine a_aload_n (pc := 33) dX3_init_33 (by decide) rfl ?_
  refine a_bipush (pc := 34) dX3_init_34 (by decide) (by decide +kernel) ?_
  refine a_bipush (pc := 36) dX3_init_36 (by decide) (by decide +kernel) ?_
  refine a_mna (N := 8) (W := 6) (x := 5) (S1 := sh_9) (pc := 38) dX3_init_38 ma_RX3_25 w_ai rfl rfl (by decide) (by decide) (by decide +kernel) (by decide) rfl ?_
  refine a_putR (rs := [(-1), 2, 3, 4, (-1), (-1), (-1), (-1)]) (S1 := sh_10) (pc := 42) dX3_init_42 fl_RX3_27 (by decide) (by decide +kernel) rfl (by decide) rfl rfl rfl (gt_1 50 rfl rfl) (tyX3_ok 4 (by decide)) (fun _ => ⟨rfl, rfl⟩) (by decide) rfl ?_
  refine a_aload_n (pc := 45) dX3_init_45 (by decide) rfl ?_
  refine a_bipush (pc := 46) dX3_init_46 (by decide) (by decide +kernel) ?_
  refine a_bipush (pc := 48) dX3_init_48 (by decide) (by decide +kernel) ?_
  refine a_mna (N := 48) (W := 6) (x := 14) (S1 := sh_11) (pc := 50) dX3_init_50 ma_RX3_25 w_ai rfl rfl (by decide) (by decide) (by decide +kernel) (by decide) rfl ?_
  refine a_putR (rs := [(-1), 2, 3, 4, 5, (-1), (-1), (-1)]) (S1 := sh_12) (pc := 54) dX3_init_54 fl_RX3_30 (by decide) (by decide +kernel) rfl (by decide) rfl rfl rfl (gt_1 54 rfl rfl) (tyX3_ok 5 (by decide)) (fun _ => ⟨rfl, rfl⟩) (by decide) rfl ?_
  refine a_aload_n (pc := 57) dX3_init_57 (by decide) rfl ?_
  refine a_bipush (pc := 58) dX3_init_58 (by decide) (by decide +kernel) ?_
  refine a_newA (N := 48) (t := 0) (x := 63) (S1 := sh_13) (pc := 60) dX3_init_60 (Or.inl ⟨rfl, rfl⟩) w_ai rfl (by decide) (by decide +kernel) (by decide) rfl ?_
  refine a_putR (rs := [(-1), 2, 3, 4, 5, 14, (-1), (-1)]) (S1 := sh_14) (pc := 62) dX3_init_62 fl_RX3_33 (by decide) (by decide +kernel) rfl (by decide) rfl rfl rfl (gt_1 55 rfl rfl) (tyX3_ok 6 (by decide)) (fun _ => ⟨rfl, rfl⟩) (by decide) rfl ?_
  refine a_aload_n (pc := 65) dX3_init_65 (by decide) rfl ?_
  refine a_bipush (pc := 66) dX3_init_66 (by decide) (by decide +kernel) ?_
  refine a_bipush (pc := 68) dX3_init_68 (by decide) (by decide +kernel) ?_
  refine a_mna (N := 12) (W := 12) (x := 64) (S1 := sh_15) (pc := 70) dX3_init_70 ma_RX3_25 w_ai rfl rfl (by decide) (by decide) (by decide +kernel) (by decide) rfl ?_
  refine a_putR (rs := [(-1), 2, 3, 4, 5, 14, 63, (-1)]) (S1 := sh_16) (pc := 74) dX3_init_74 fl_RX3_36 (by decide) (by decide +kernel) rfl (by decide) rfl rfl rfl (gt_1 56 rfl rfl) (tyX3_ok 7 (by decide)) (fun _ => ⟨rfl, rfl⟩) (by decide) rfl ?_
  refine a_vret (pc := 77) dX3_init_77 rfl rfl (by decide) ?_
  show AWG mX8_init _ 76 628 12 [(2, 0)] [(2, 1), (2, 0)] sh_16 mm_1 _
  refine a_putR (rs := [(-1), (-1), (-1), (-1), (-1), (-1), (-1), (-1), (-1), (-1), (-1)]) (S1 := sh_17) (pc := 12) dX8_init_12 fl_RX8_10 (by decide) (by decide +kernel) rfl (by decide) rfl rfl rfl (gt_1 222 rfl rfl) (tyX8_ok 0 (by decide)) (fun _ => ⟨rfl, rfl⟩) (by decide) rfl ?_
  refine a_aload_n (pc := 15) dX8_init_15 (by decide) rfl ?_
  refine a_new (x := 77) (S1 := sh_18) (pc := 16) dX8_init_16 cn_RX8_7 (by decide +kernel) (by decide) rfl ?_
  refine a_dup (pc := 19) dX8_init_19 (by decide) ?_
  refine q_inlI (Ex := _) (k1 := 152) (n1 := 1256) (As := []) (st := [(2, 77), (2, 0)]) (st1 := fun r => [(2, 77), (2, 0)]) (pc := 20) dX8_init_20 ml_RX8_9 (by decide) (by decide) (Nat.le_of_ble_eq_true rfl) rfl rfl rfl (fun _ => rfl) (by decide) (by decide) (Nat.le_of_ble_eq_true rfl) rfl ?_
  refine a_aload_n (pc := 0) dX3_init_0 (by decide) rfl ?_
  refine a_obj (pc := 1) dX3_init_1 ol_RX3 w_oi w_oc (by decide) (by decide) (by decide) (Nat.le_of_ble_eq_true rfl) ?_
  refine a_aload_n (pc := 4) dX3_init_4 (by decide) rfl ?_
  refine a_iconst (pc := 5) dX3_init_5 (by decide) ?_
  refine a_putI (y := 0) (rs := [(-1), (-1), (-1), (-1), (-1), (-1), (-1), (-1)]) (pc := 6) dX3_init_6 fl_RX3_9 (by decide) (by decide +kernel) rfl rfl (tyX3_ok 0 (by decide)) rfl ?_
  rw [show up2 mm_1 77 0 0 = mm_2 from rfl]
  refine a_aload_n (pc := 9) dX3_init_9 (by decide) rfl ?_
  refine a_bipush (pc := 10) dX3_init_10 (by decide) (by decide +kernel) ?_
  refine a_newA (N := 8) (t := 0) (x := 78) (S1 := sh_19) (pc := 12) dX3_init_12 (Or.inl ⟨rfl, rfl⟩) w_ai rfl (by decide) (by decide +kernel) (by decide) rfl ?_
  refine a_putR (rs := [(-1), (-1), (-1), (-1), (-1), (-1), (-1), (-1)]) (S1 := sh_20) (pc := 14) dX3_init_14 fl_RX3_15 (by decide) (by decide +kernel) rfl (by decide) rfl rfl rfl (gt_1 36 rfl rfl) (tyX3_ok 1 (by decide)) (fun _ => ⟨rfl, rfl⟩) (by decide) rfl ?_
  refine a_aload_n (pc := 17) dX3_init_17 (by decide) rfl ?_
  refine a_bipush (pc := 18) dX3_init_18 (by decide) (by decide +kernel) ?_
  refine a_newA (N := 8) (t := 0) (x := 79) (S1 := sh_21) (pc := 20) dX3_init_20 (Or.inl ⟨rfl, rfl⟩) w_ai rfl (by decide) (by decide +kernel) (by decide) rfl ?_
  refine a_putR (rs := [(-1), 78, (-1), (-1), (-1), (-1), (-1), (-1)]) (S1 := sh_22) (pc := 22) dX3_init_22 fl_RX3_19 (by decide) (by decide +kernel) rfl (by decide) rfl rfl rfl (gt_1 39 rfl rfl) (tyX3_ok 2 (by decide)) (fun _ => ⟨rfl, rfl⟩) (by decide) rfl ?_
  refine a_aload_n (pc := 25) dX3_init_25 (by decide) rfl ?_
  refine a_bipush (pc := 26) dX3_init_26 (by decide) (by decide +kernel) ?_
  refine a_newA (N := 8) (t := 0) (x := 80) (S1 := sh_23) (pc := 28) dX3_init_28 (Or.inl ⟨rfl, rfl⟩) w_ai rfl (by decide) (by decide +kernel) (by decide) rfl ?_
  refine a_putR (rs := [(-1), 78, 79, (-1), (-1), (-1), (-1), (-1)]) (S1 := sh_24) (pc := 30) dX3_init_30 fl_RX3_22 (by decide) (by decide +kernel) rfl (by decide) rfl rfl rfl (gt_1 44 rfl rfl) (tyX3_ok 3 (by decide)) (fun _ => ⟨rfl, rfl⟩) (by decide) rfl ?_
  refine a_aload_n (pc := 33) dX3_init_33 (by decide) rfl ?_
  refine a_bipush (pc := 34) dX3_init_34 (by decide) (by decide +kernel) ?_
  refine a_bipush (pc := 36) dX3_init_36 (by decide) (by decide +kernel) ?_
  refine a_mna (N := 8) (W := 6) (x := 81) (S1 := sh_25) (pc := 38) dX3_init_38 ma_RX3_25 w_ai rfl rfl (by decide) (by decide) (by decide +kernel) (by decide) rfl ?_
  refine a_putR (rs := [(-1), 78, 79, 80, (-1), (-1), (-1), (-1)]) (S1 := sh_26) (pc := 42) dX3_init_42 fl_RX3_27 (by decide) (by decide +kernel) rfl (by decide) rfl rfl rfl (gt_1 50 rfl rfl) (tyX3_ok 4 (by decide)) (fun _ => ⟨rfl, rfl⟩) (by decide) rfl ?_
  refine a_aload_n (pc := 45) dX3_init_45 (by decide) rfl ?_
  refine a_bipush (pc := 46) dX3_init_46 (by decide) (by decide +kernel) ?_
  refine a_bipush (pc := 48) dX3_init_48 (by decide) (by decide +kernel) ?_
  refine a_mna (N := 48) (W := 6) (x := 90) (S1 := sh_27) (pc := 50) dX3_init_50 ma_RX3_25 w_ai rfl rfl (by decide) (by decide) (by decide +kernel) (by decide) rfl ?_
  refine a_putR (rs := [(-1), 78, 79, 80, 81, (-1), (-1), (-1)]) (S1 := sh_28) (pc := 54) dX3_init_54 fl_RX3_30 (by decide) (by decide +kernel) rfl (by decide) rfl rfl rfl (gt_1 54 rfl rfl) (tyX3_ok 5 (by decide)) (fun _ => ⟨rfl, rfl⟩) (by decide) rfl ?_
  refine a_aload_n (pc := 57) dX3_init_57 (by decide) rfl ?_
  refine a_bipush (pc := 58) dX3_init_58 (by decide) (by decide +kernel) ?_
  refine a_newA (N := 48) (t := 0) (x := 139) (S1 := sh_29) (pc := 60) dX3_init_60 (Or.inl ⟨rfl, rfl⟩) w_ai rfl (by decide) (by decide +kernel) (by decide) rfl ?_
  refine a_putR (rs := [(-1), 78, 79, 80, 81, 90, (-1), (-1)]) (S1 := sh_30) (pc := 62) dX3_init_62 fl_RX3_33 (by decide) (by decide +kernel) rfl (by decide) rfl rfl rfl (gt_1 55 rfl rfl) (tyX3_ok 6 (by decide)) (fun _ => ⟨rfl, rfl⟩) (by decide) rfl ?_
  refine a_aload_n (pc := 65) dX3_init_65 (by decide) rfl ?_
  refine a_bipush (pc := 66) dX3_init_66 (by decide) (by decide +kernel) ?_
  refine a_bipush (pc := 68) dX3_init_68 (by decide) (by decide +kernel) ?_
  refine a_mna (N := 12) (W := 12) (x := 140) (S1 := sh_31) (pc := 70) dX3_init_70 ma_RX3_25 w_ai rfl rfl (by decide) (by decide) (by decide +kernel) (by decide) rfl ?_
  refine a_putR (rs := [(-1), 78, 79, 80, 81, 90, 139, (-1)]) (S1 := sh_32) (pc := 74) dX3_init_74 fl_RX3_36 (by decide) (by decide +kernel) rfl (by decide) rfl rfl rfl (gt_1 56 rfl rfl) (tyX3_ok 7 (by decide)) (fun _ => ⟨rfl, rfl⟩) (by decide) rfl ?_
  refine a_vret (pc := 77) dX3_init_77 rfl rfl (by decide) ?_
  show AWG mX8_init _ 152 1256 23 [(2, 0)] [(2, 77), (2, 0)] sh_32 mm_2 _
  refine a_putR (rs := [1, (-1), (-1), (-1), (-1), (-1), (-1), (-1), (-1), (-1), (-1)]) (S1 := sh_33) (pc := 23) dX8_init_23 fl_RX8_16 (by decide) (by decide +kernel) rfl (by decide) rfl rfl rfl (gt_1 223 rfl rfl) (tyX8_ok 1 (by decide)) (fun _ => ⟨rfl, rfl⟩) (by decide) rfl ?_
  refine a_aload_n (pc := 26) dX8_init_26 (by decide) rfl ?_
  refine a_new (x := 153) (S1 := sh_34) (pc := 27) dX8_init_27 cn_RX8_7 (by decide +kernel) (by decide) rfl ?_
  refine a_dup (pc := 30) dX8_init_30 (by decide) ?_
  refine q_inlI (Ex := _) (k1 := 228) (n1 := 1884) (As := []) (st := [(2, 153), (2, 0)]) (st1 := fun r => [(2, 153), (2, 0)]) (pc := 31) dX8_init_31 ml_RX8_9 (by decide) (by decide) (Nat.le_of_ble_eq_true rfl) rfl rfl rfl (fun _ => rfl) (by decide) (by decide) (Nat.le_of_ble_eq_true rfl) rfl ?_
  refine a_aload_n (pc := 0) dX3_init_0 (by decide) rfl ?_
  refine a_obj (pc := 1) dX3_init_1 ol_RX3 w_oi w_oc (by decide) (by decide) (by decide) (Nat.le_of_ble_eq_true rfl) ?_
  refine a_aload_n (pc := 4) dX3_init_4 (by decide) rfl ?_
  refine a_iconst (pc := 5) dX3_init_5 (by decide) ?_
  refine a_putI (y := 0) (rs := [(-1), (-1), (-1), (-1), (-1), (-1), (-1), (-1)]) (pc := 6) dX3_init_6 fl_RX3_9 (by decide) (by decide +kernel) rfl rfl (tyX3_ok 0 (by decide)) rfl ?_
  rw [show up2 mm_2 153 0 0 = mm_3 from rfl]
  refine a_aload_n (pc := 9) dX3_init_9 (by decide) rfl ?_
  refine a_bipush (pc := 10) dX3_init_10 (by decide) (by decide +kernel) ?_
  refine a_newA (N := 8) (t := 0) (x := 154) (S1 := sh_35) (pc := 12) dX3_init_12 (Or.inl ⟨rfl, rfl⟩) w_ai rfl (by decide) (by decide +kernel) (by decide) rfl ?_
  refine a_putR (rs := [(-1), (-1), (-1), (-1), (-1), (-1), (-1), (-1)]) (S1 := sh_36) (pc := 14) dX3_init_14 fl_RX3_15 (by decide) (by decide +kernel) rfl (by decide) rfl rfl rfl (gt_1 36 rfl rfl) (tyX3_ok 1 (by decide)) (fun _ => ⟨rfl, rfl⟩) (by decide) rfl ?_
  refine a_aload_n (pc := 17) dX3_init_17 (by decide) rfl ?_
  refine a_bipush (pc := 18) dX3_init_18 (by decide) (by decide +kernel) ?_
  refine a_newA (N := 8) (t := 0) (x := 155) (S1 := sh_37) (pc := 20) dX3_init_20 (Or.inl ⟨rfl, rfl⟩) w_ai rfl (by decide) (by decide +kernel) (by decide) rfl ?_
  refine a_putR (rs := [(-1), 154, (-1), (-1), (-1), (-1), (-1), (-1)]) (S1 := sh_38) (pc := 22) dX3_init_22 fl_RX3_19 (by decide) (by decide +kernel) rfl (by decide) rfl rfl rfl (gt_1 39 rfl rfl) (tyX3_ok 2 (by decide)) (fun _ => ⟨rfl, rfl⟩) (by decide) rfl ?_
  refine a_aload_n (pc := 25) dX3_init_25 (by decide) rfl ?_
  refine a_bipush (pc := 26) dX3_init_26 (by decide) (by decide +kernel) ?_
  refine a_newA (N := 8) (t := 0) (x := 156) (S1 := sh_39) (pc := 28) dX3_init_28 (Or.inl ⟨rfl, rfl⟩) w_ai rfl (by decide) (by decide +kernel) (by decide) rfl ?_
  refine a_putR (rs := [(-1), 154, 155, (-1), (-1), (-1), (-1), (-1)]) (S1 := sh_40) (pc := 30) dX3_init_30 fl_RX3_22 (by decide) (by decide +kernel) rfl (by decide) rfl rfl rfl (gt_1 44 rfl rfl) (tyX3_ok 3 (by decide)) (fun _ => ⟨rfl, rfl⟩) (by decide) rfl ?_
  refine a_aload_n (pc := 33) dX3_init_33 (by decide) rfl ?_
  refine a_bipush (pc := 34) dX3_init_34 (by decide) (by decide +kernel) ?_
  refine a_bipush (pc := 36) dX3_init_36 (by decide) (by decide +kernel) ?_
  refine a_mna (N := 8) (W := 6) (x := 157) (S1 := sh_41) (pc := 38) dX3_init_38 ma_RX3_25 w_ai rfl rfl (by decide) (by decide) (by decide +kernel) (by decide) rfl ?_
  refine a_putR (rs := [(-1), 154, 155, 156, (-1), (-1), (-1), (-1)]) (S1 := sh_42) (pc := 42) dX3_init_42 fl_RX3_27 (by decide) (by decide +kernel) rfl (by decide) rfl rfl rfl (gt_1 50 rfl rfl) (tyX3_ok 4 (by decide)) (fun _ => ⟨rfl, rfl⟩) (by decide) rfl ?_
  refine a_aload_n (pc := 45) dX3_init_45 (by decide) rfl ?_
  refine a_bipush (pc := 46) dX3_init_46 (by decide) (by decide +kernel) ?_
  refine a_bipush (pc := 48) dX3_init_48 (by decide) (by decide +kernel) ?_
  refine a_mna (N := 48) (W := 6) (x := 166) (S1 := sh_43) (pc := 50) dX3_init_50 ma_RX3_25 w_ai rfl rfl (by decide) (by decide) (by decide +kernel) (by decide) rfl ?_
  refine a_putR (rs := [(-1), 154, 155, 156, 157, (-1), (-1), (-1)]) (S1 := sh_44) (pc := 54) dX3_init_54 fl_RX3_30 (by decide) (by decide +kernel) rfl (by decide) rfl rfl rfl (gt_1 54 rfl rfl) (tyX3_ok 5 (by decide)) (fun _ => ⟨rfl, rfl⟩) (by decide) rfl ?_
  refine a_aload_n (pc := 57) dX3_init_57 (by decide) rfl ?_
  refine a_bipush (pc := 58) dX3_init_58 (by decide) (by decide +kernel) ?_
  refine a_newA (N := 48) (t := 0) (x := 215) (S1 := sh_45) (pc := 60) dX3_init_60 (Or.inl ⟨rfl, rfl⟩) w_ai rfl (by decide) (by decide +kernel) (by decide) rfl ?_
  refine a_putR (rs := [(-1), 154, 155, 156, 157, 166, (-1), (-1)]) (S1 := sh_46) (pc := 62) dX3_init_62 fl_RX3_33 (by decide) (by decide +kernel) rfl (by decide) rfl rfl rfl (gt_1 55 rfl rfl) (tyX3_ok 6 (by decide)) (fun _ => ⟨rfl, rfl⟩) (by decide) rfl ?_
  refine a_aload_n (pc := 65) dX3_init_65 (by decide) rfl ?_
  refine a_bipush (pc := 66) dX3_init_66 (by decide) (by decide +kernel) ?_
  refine a_bipush (pc := 68) dX3_init_68 (by decide) (by decide +kernel) ?_
  refine a_mna (N := 12) (W := 12) (x := 216) (S1 := sh_47) (pc := 70) dX3_init_70 ma_RX3_25 w_ai rfl rfl (by decide) (by decide) (by decide +kernel) (by decide) rfl ?_
  refine a_putR (rs := [(-1), 154, 155, 156, 157, 166, 215, (-1)]) (S1 := sh_48) (pc := 74) dX3_init_74 fl_RX3_36 (by decide) (by decide +kernel) rfl (by decide) rfl rfl rfl (gt_1 56 rfl rfl) (tyX3_ok 7 (by decide)) (fun _ => ⟨rfl, rfl⟩) (by decide) rfl ?_
  refine a_vret (pc := 77) dX3_init_77 rfl rfl (by decide) ?_
  show AWG mX8_init _ 228 1884 34 [(2, 0)] [(2, 153), (2, 0)] sh_48 mm_3 _
  refine a_putR (rs := [1, 77, (-1), (-1), (-1), (-1), (-1), (-1), (-1), (-1), (-1)]) (S1 := sh_49) (pc := 34) dX8_init_34 fl_RX8_19 (by decide) (by decide +kernel) rfl (by decide) rfl rfl rfl (gt_1 224 rfl rfl) (tyX8_ok 2 (by decide)) (fun _ => ⟨rfl, rfl⟩) (by decide) rfl ?_
  refine a_aload_n (pc := 37) dX8_init_37 (by decide) rfl ?_
  refine a_new (x := 229) (S1 := sh_50) (pc := 38) dX8_init_38 cn_RX8_22 (by decide +kernel) (by decide) rfl ?_
  refine a_dup (pc := 41) dX8_init_41 (by decide) ?_
  refine a_aload_n (pc := 42) dX8_init_42 (by decide) rfl ?_
  refine a_getR (y := 1) (rs := [1, 77, 153, (-1), (-1), (-1), (-1), (-1), (-1), (-1), (-1)]) (pc := 43) dX8_init_43 fl_RX8_10 (by decide) (by decide +kernel) rfl rfl ?_
  refine q_inlI (Ex := _) (k1 := 245) (n1 := 2072) (As := [(2, 1)]) (st := [(2, 229), (2, 0)]) (st1 := fun r => [(2, 229), (2, 0)]) (pc := 46) dX8_init_46 ml_RX8_24 (by decide) (by decide) (Nat.le_of_ble_eq_true rfl) rfl rfl rfl (fun _ => rfl) (by decide) (by decide) (Nat.le_of_ble_eq_true rfl) rfl ?_
  refine a_aload_n (pc := 0) dX6_init_0 (by decide) rfl ?_
  refine a_obj (pc := 1) dX6_init_1 ol_RX6 w_oi w_oc (by decide) (by decide) (by decide) (Nat.le_of_ble_eq_true rfl) ?_
  refine a_aload_n (pc := 4) dX6_init_4 (by decide) rfl ?_
  refine a_aload_n (pc := 5) dX6_init_5 (by decide) rfl ?_
  refine a_putR (rs := [(-1), (-1), (-1), (-1), (-1), (-1)]) (S1 := sh_51) (pc := 6) dX6_init_6 fl_RX6_9 (by decide) (by decide +kernel) rfl (by decide) rfl rfl rfl (gt_1 89 rfl rfl) (tyX6_ok 0 (by decide)) (fun _ => ⟨rfl, rfl⟩) (by decide) rfl ?_
  refine a_aload_n (pc := 9) dX6_init_9 (by decide) rfl ?_
  refine a_bipush (pc := 10) dX6_init_10 (by decide) (by decide +kernel) ?_
  refine a_bipush (pc := 12) dX6_init_12 (by decide) (by decide +kernel) ?_
  refine a_mna (N := 7) (W := 12) (x := 230) (S1 := sh_52) (pc := 14) dX6_init_14 ma_RX6_15 w_ai rfl rfl (by decide) (by decide) (by decide +kernel) (by decide) rfl ?_
  refine a_putR (rs := [1, (-1), (-1), (-1), (-1), (-1)]) (S1 := sh_53) (pc := 18) dX6_init_18 fl_RX6_17 (by decide) (by decide +kernel) rfl (by decide) rfl rfl rfl (gt_1 90 rfl rfl) (tyX6_ok 1 (by decide)) (fun _ => ⟨rfl, rfl⟩) (by decide) rfl ?_
  refine a_aload_n (pc := 21) dX6_init_21 (by decide) rfl ?_
  refine a_bipush (pc := 22) dX6_init_22 (by decide) (by decide +kernel) ?_
  refine a_bipush (pc := 24) dX6_init_24 (by decide) (by decide +kernel) ?_
  refine a_mna (N := 7) (W := 12) (x := 238) (S1 := sh_54) (pc := 26) dX6_init_26 ma_RX6_15 w_ai rfl rfl (by decide) (by decide) (by decide +kernel) (by decide) rfl ?_
  refine a_putR (rs := [1, 230, (-1), (-1), (-1), (-1)]) (S1 := sh_55) (pc := 30) dX6_init_30 fl_RX6_20 (by decide) (by decide +kernel) rfl (by decide) rfl rfl rfl (gt_1 93 rfl rfl) (tyX6_ok 2 (by decide)) (fun _ => ⟨rfl, rfl⟩) (by decide) rfl ?_
  refine a_aload_n (pc := 33) dX6_init_33 (by decide) rfl ?_
  refine q_inlV (Ex := _) (k1 := 16) (n1 := 182) (As := []) (st := []) (st1 := fun r => []) (ci := 5) (N := 6) (rs := [1, 230, 238, (-1), (-1), (-1)]) (pc := 34) dX6_init_34 ml_RX6_23 (by decide) (by decide +kernel) rfl (by decide) (Nat.le_of_ble_eq_true rfl) rfl rfl rfl (fun _ => rfl) (by decide) (by decide) (Nat.le_of_ble_eq_true rfl) rfl ?_
  refine a_aload_n (pc := 0) dX6_loseNothing_0 (by decide) rfl ?_
  refine a_iconst (pc := 1) dX6_loseNothing_1 (by decide) ?_
  refine a_putI (y := 3) (rs := [1, 230, 238, (-1), (-1), (-1)]) (pc := 2) dX6_loseNothing_2 fl_RX6_26 (by decide) (by decide +kernel) rfl rfl (tyX6_ok 3 (by decide)) rfl ?_
  rw [show up2 mm_3 229 3 (-1) = mm_4 from rfl]
  refine a_aload_n (pc := 5) dX6_loseNothing_5 (by decide) rfl ?_
  refine a_iconst (pc := 6) dX6_loseNothing_6 (by decide) ?_
  refine a_putI (y := 4) (rs := [1, 230, 238, (-1), (-1), (-1)]) (pc := 7) dX6_loseNothing_7 fl_RX6_30 (by decide) (by decide +kernel) rfl rfl (tyX6_ok 4 (by decide)) rfl ?_
  rw [show up2 mm_4 229 4 (-1) = mm_5 from rfl]
  refine a_aload_n (pc := 10) dX6_loseNothing_10 (by decide) rfl ?_
  refine a_iconst (pc := 11) dX6_loseNothing_11 (by decide) ?_
  refine a_putI (y := 5) (rs := [1, 230, 238, (-1), (-1), (-1)]) (pc := 12) dX6_loseNothing_12 fl_RX6_33 (by decide) (by decide +kernel) rfl rfl (tyX6_ok 5 (by decide)) rfl ?_
  rw [show up2 mm_5 229 5 (-1) = mm_6 from rfl]
  refine a_vret (pc := 15) dX6_loseNothing_15 rfl rfl (by decide) ?_
  show AWG mX6_init _ 16 182 37 [(2, 229), (2, 1)] [] sh_55 mm_6 _
  refine a_vret (pc := 37) dX6_init_37 rfl rfl (by decide) ?_
  show AWG mX8_init _ 245 2072 49 [(2, 0)] [(2, 229), (2, 0)] sh_55 mm_6 _
  refine a_putR (rs := [1, 77, 153, (-1), (-1), (-1), (-1), (-1), (-1), (-1), (-1)]) (S1 := sh_56) (pc := 49) dX8_init_49 fl_RX8_27 (by decide) (by decide +kernel) rfl (by decide) rfl rfl rfl (gt_1 225 rfl rfl) (tyX8_ok 3 (by decide)) (fun _ => ⟨rfl, rfl⟩) (by decide) rfl ?_
  refine a_aload_n (pc := 52) dX8_init_52 (by decide) rfl ?_
  refine a_new (x := 246) (S1 := sh_57) (pc := 53) dX8_init_53 cn_RX8_31 (by decide +kernel) (by decide) rfl ?_
  refine a_dup (pc := 56) dX8_init_56 (by decide) ?_
  refine a_aload_n (pc := 57) dX8_init_57 (by decide) rfl ?_
  refine a_getR (y := 1) (rs := [1, 77, 153, 229, (-1), (-1), (-1), (-1), (-1), (-1), (-1)]) (pc := 58) dX8_init_58 fl_RX8_10 (by decide) (by decide +kernel) rfl rfl ?_
  refine a_aload_n (pc := 61) dX8_init_61 (by decide) rfl ?_
  refine a_getR (y := 229) (rs := [1, 77, 153, 229, (-1), (-1), (-1), (-1), (-1), (-1), (-1)]) (pc := 62) dX8_init_62 fl_RX8_27 (by decide) (by decide +kernel) rfl rfl ?_
  refine q_inlI (Ex := _) (k1 := 260) (n1 := 2183) (As := [(2, 1), (2, 229)]) (st := [(2, 246), (2, 0)]) (st1 := fun r => [(2, 246), (2, 0)]) (pc := 65) dX8_init_65 ml_RX8_33 (by decide) (by decide) (Nat.le_of_ble_eq_true rfl) rfl rfl rfl (fun _ => rfl) (by decide) (by decide) (Nat.le_of_ble_eq_true rfl) rfl ?_
  refine a_aload_n (pc := 0) dX5_init_0 (by decide) rfl ?_
  refine a_obj (pc := 1) dX5_init_1 ol_RX5 w_oi w_oc (by decide) (by decide) (by decide) (Nat.le_of_ble_eq_true rfl) ?_
  refine a_aload_n (pc := 4) dX5_init_4 (by decide) rfl ?_
  refine a_aload_n (pc := 5) dX5_init_5 (by decide) rfl ?_
  refine a_putR (rs := [(-1), (-1), (-1), (-1), (-1), (-1), (-1)]) (S1 := sh_58) (pc := 6) dX5_init_6 fl_RX5_9 (by decide) (by decide +kernel) rfl (by decide) rfl rfl rfl (gt_1 117 rfl rfl) (tyX5_ok 0 (by decide)) (fun _ => ⟨rfl, rfl⟩) (by decide) rfl ?_
  refine a_aload_n (pc := 9) dX5_init_9 (by decide) rfl ?_
  refine a_aload_n (pc := 10) dX5_init_10 (by decide) rfl ?_
  refine a_putR (rs := [1, (-1), (-1), (-1), (-1), (-1), (-1)]) (S1 := sh_59) (pc := 11) dX5_init_11 fl_RX5_15 (by decide) (by decide +kernel) rfl (by decide) rfl rfl rfl (gt_1 118 rfl rfl) (tyX5_ok 1 (by decide)) (fun _ => ⟨rfl, rfl⟩) (by decide) rfl ?_
  refine a_aload_n (pc := 14) dX5_init_14 (by decide) rfl ?_
  refine a_bipush (pc := 15) dX5_init_15 (by decide) (by decide +kernel) ?_
  refine a_bipush (pc := 17) dX5_init_17 (by decide) (by decide +kernel) ?_
  refine a_mna (N := 13) (W := 7) (x := 247) (S1 := sh_60) (pc := 19) dX5_init_19 ma_RX5_19 w_ai rfl rfl (by decide) (by decide) (by decide +kernel) (by decide) rfl ?_
  refine a_putR (rs := [1, 229, (-1), (-1), (-1), (-1), (-1)]) (S1 := sh_61) (pc := 23) dX5_init_23 fl_RX5_21 (by decide) (by decide +kernel) rfl (by decide) rfl rfl rfl (gt_1 119 rfl rfl) (tyX5_ok 2 (by decide)) (fun _ => ⟨rfl, rfl⟩) (by decide) rfl ?_
  refine a_aload_n (pc := 26) dX5_init_26 (by decide) rfl ?_
  refine a_iconst (pc := 27) dX5_init_27 (by decide) ?_
  refine a_putI (y := 3) (rs := [1, 229, 247, (-1), (-1), (-1), (-1)]) (pc := 28) dX5_init_28 fl_RX5_24 (by decide) (by decide +kernel) rfl rfl (tyX5_ok 3 (by decide)) rfl ?_
  rw [show up2 mm_6 246 3 0 = mm_7 from rfl]
  refine a_aload_n (pc := 31) dX5_init_31 (by decide) rfl ?_
  refine a_iconst (pc := 32) dX5_init_32 (by decide) ?_
  refine a_putI (y := 4) (rs := [1, 229, 247, (-1), (-1), (-1), (-1)]) (pc := 33) dX5_init_33 fl_RX5_28 (by decide) (by decide +kernel) rfl rfl (tyX5_ok 4 (by decide)) rfl ?_
  rw [show up2 mm_7 246 4 0 = mm_8 from rfl]
  refine a_aload_n (pc := 36) dX5_init_36 (by decide) rfl ?_
  refine a_iconst (pc := 37) dX5_init_37 (by decide) ?_
  refine a_putI (y := 5) (rs := [1, 229, 247, (-1), (-1), (-1), (-1)]) (pc := 38) dX5_init_38 fl_RX5_31 (by decide) (by decide +kernel) rfl rfl (tyX5_ok 5 (by decide)) rfl ?_
  rw [show up2 mm_8 246 5 0 = mm_9 from rfl]
  refine a_aload_n (pc := 41) dX5_init_41 (by decide) rfl ?_
  refine a_iconst (pc := 42) dX5_init_42 (by decide) ?_
  refine a_putI (y := 6) (rs := [1, 229, 247, (-1), (-1), (-1), (-1)]) (pc := 43) dX5_init_43 fl_RX5_34 (by decide) (by decide +kernel) rfl rfl (tyX5_ok 6 (by decide)) rfl ?_
  rw [show up2 mm_9 246 6 0 = mm_10 from rfl]
  refine a_vret (pc := 46) dX5_init_46 rfl rfl (by decide) ?_
  show AWG mX8_init _ 260 2183 68 [(2, 0)] [(2, 246), (2, 0)] sh_61 mm_10 _
  refine a_putR (rs := [1, 77, 153, 229, (-1), (-1), (-1), (-1), (-1), (-1), (-1)]) (S1 := sh_62) (pc := 68) dX8_init_68 fl_RX8_36 (by decide) (by decide +kernel) rfl (by decide) rfl rfl rfl (gt_1 226 rfl rfl) (tyX8_ok 4 (by decide)) (fun _ => ⟨rfl, rfl⟩) (by decide) rfl ?_
  refine a_aload_n (pc := 71) dX8_init_71 (by decide) rfl ?_
  refine a_new (x := 261) (S1 := sh_63) (pc := 72) dX8_init_72 cn_RX8_40 (by decide +kernel) (by decide) rfl ?_
  refine a_dup (pc := 75) dX8_init_75 (by decide) ?_
  refine a_aload_n (pc := 76) dX8_init_76 (by decide) rfl ?_
  refine a_getR (y := 1) (rs := [1, 77, 153, 229, 246, (-1), (-1), (-1), (-1), (-1), (-1)]) (pc := 77) dX8_init_77 fl_RX8_10 (by decide) (by decide +kernel) rfl rfl ?_
  refine q_inlI (Ex := _) (k1 := 262) (n1 := 2234) (As := [(2, 1)]) (st := [(2, 261), (2, 0)]) (st1 := fun r => [(2, 261), (2, 0)]) (pc := 80) dX8_init_80 ml_RX8_42 (by decide) (by decide) (Nat.le_of_ble_eq_true rfl) rfl rfl rfl (fun _ => rfl) (by decide) (by decide) (Nat.le_of_ble_eq_true rfl) rfl ?_
  refine a_aload_n (pc := 0) dX0_init_0 (by decide) rfl ?_
  refine a_obj (pc := 1) dX0_init_1 ol_RX0 w_oi w_oc (by decide) (by decide) (by decide) (Nat.le_of_ble_eq_true rfl) ?_
  refine a_aload_n (pc := 4) dX0_init_4 (by decide) rfl ?_
  refine a_aload_n (pc := 5) dX0_init_5 (by decide) rfl ?_
  refine a_putR (rs := [(-1), (-1), (-1)]) (S1 := sh_64) (pc := 6) dX0_init_6 fl_RX0_9 (by decide) (by decide +kernel) rfl (by decide) rfl rfl rfl (gt_1 146 rfl rfl) (tyX0_ok 0 (by decide)) (fun _ => ⟨rfl, rfl⟩) (by decide) rfl ?_
  refine a_aload_n (pc := 9) dX0_init_9 (by decide) rfl ?_
  refine a_bipush (pc := 10) dX0_init_10 (by decide) (by decide +kernel) ?_
  refine a_newA (N := 48) (t := 0) (x := 262) (S1 := sh_65) (pc := 12) dX0_init_12 (Or.inl ⟨rfl, rfl⟩) w_ai rfl (by decide) (by decide +kernel) (by decide) rfl ?_
  refine a_putR (rs := [1, (-1), (-1)]) (S1 := sh_66) (pc := 14) dX0_init_14 fl_RX0_15 (by decide) (by decide +kernel) rfl (by decide) rfl rfl rfl (gt_1 147 rfl rfl) (tyX0_ok 1 (by decide)) (fun _ => ⟨rfl, rfl⟩) (by decide) rfl ?_
  refine a_aload_n (pc := 17) dX0_init_17 (by decide) rfl ?_
  refine a_iconst (pc := 18) dX0_init_18 (by decide) ?_
  refine a_putI (y := 2) (rs := [1, 262, (-1)]) (pc := 19) dX0_init_19 fl_RX0_19 (by decide) (by decide +kernel) rfl rfl (tyX0_ok 2 (by decide)) rfl ?_
  rw [show up2 mm_10 261 2 0 = mm_11 from rfl]
  refine a_vret (pc := 22) dX0_init_22 rfl rfl (by decide) ?_
  show AWG mX8_init _ 262 2234 83 [(2, 0)] [(2, 261), (2, 0)] sh_66 mm_11 _
  refine a_putR (rs := [1, 77, 153, 229, 246, (-1), (-1), (-1), (-1), (-1), (-1)]) (S1 := sh_67) (pc := 83) dX8_init_83 fl_RX8_43 (by decide) (by decide +kernel) rfl (by decide) rfl rfl rfl (gt_1 227 rfl rfl) (tyX8_ok 5 (by decide)) (fun _ => ⟨rfl, rfl⟩) (by decide) rfl ?_
  refine a_aload_n (pc := 86) dX8_init_86 (by decide) rfl ?_
  refine a_new (x := 263) (S1 := sh_68) (pc := 87) dX8_init_87 cn_RX8_47 (by decide +kernel) (by decide) rfl ?_
  refine a_dup (pc := 90) dX8_init_90 (by decide) ?_
  refine a_bipush (pc := 91) dX8_init_91 (by decide) (by decide +kernel) ?_
  refine q_inlI (Ex := _) (k1 := 264) (n1 := 2396) (As := [(0, 80)]) (st := [(2, 263), (2, 0)]) (st1 := fun r => [(2, 263), (2, 0)]) (pc := 93) dX8_init_93 ml_RX8_49 (by decide) (by decide) (Nat.le_of_ble_eq_true rfl) rfl rfl rfl (fun _ => rfl) (by decide) (by decide) (Nat.le_of_ble_eq_true rfl) rfl ?_
  refine a_aload_n (pc := 0) dX7_init_0 (by decide) rfl ?_
  refine a_obj (pc := 1) dX7_init_1 ol_RX7 w_oi w_oc (by decide) (by decide) (by decide) (Nat.le_of_ble_eq_true rfl) ?_
  refine a_aload_n (pc := 4) dX7_init_4 (by decide) rfl ?_
  refine a_iconst (pc := 5) dX7_init_5 (by decide) ?_
  refine a_iload_n (pc := 6) dX7_init_6 rfl ?_
  refine a_mmax (z := 80) (pc := 7) dX7_init_7 ml_RX7_7 is_max rfl (by decide) (by decide) (by decide) (by decide) (Nat.le_of_ble_eq_true rfl) ?_
  refine a_newA (N := 80) (t := 0) (x := 264) (S1 := sh_69) (pc := 10) dX7_init_10 (Or.inl ⟨rfl, rfl⟩) w_ai rfl (by decide) (by decide +kernel) (by decide) rfl ?_
  refine a_putR (rs := [(-1), (-1)]) (S1 := sh_70) (pc := 12) dX7_init_12 fl_RX7_13 (by decide) (by decide +kernel) rfl (by decide) rfl rfl rfl (gt_1 166 rfl rfl) (tyX7_ok 0 (by decide)) (fun _ => ⟨rfl, rfl⟩) (by decide) rfl ?_
  refine a_aload_n (pc := 15) dX7_init_15 (by decide) rfl ?_
  refine a_iconst (pc := 16) dX7_init_16 (by decide) ?_
  refine a_putI (y := 1) (rs := [264, (-1)]) (pc := 17) dX7_init_17 fl_RX7_19 (by decide) (by decide +kernel) rfl rfl (tyX7_ok 1 (by decide)) rfl ?_
  rw [show up2 mm_11 263 1 0 = mm_12 from rfl]
  refine a_vret (pc := 20) dX7_init_20 rfl rfl (by decide) ?_
  show AWG mX8_init _ 264 2396 96 [(2, 0)] [(2, 263), (2, 0)] sh_70 mm_12 _
  refine a_putR (rs := [1, 77, 153, 229, 246, 261, (-1), (-1), (-1), (-1), (-1)]) (S1 := sh_71) (pc := 96) dX8_init_96 fl_RX8_52 (by decide) (by decide +kernel) rfl (by decide) rfl rfl rfl (gt_1 228 rfl rfl) (tyX8_ok 6 (by decide)) (fun _ => ⟨rfl, rfl⟩) (by decide) rfl ?_
  refine a_aload_n (pc := 99) dX8_init_99 (by decide) rfl ?_
  refine a_new (x := 265) (S1 := sh_72) (pc := 100) dX8_init_100 cn_RX8_47 (by decide +kernel) (by decide) rfl ?_
  refine a_dup (pc := 103) dX8_init_103 (by decide) ?_
  refine a_sipush (pc := 104) dX8_init_104 (by decide) (by decide +kernel) ?_
  refine q_inlI (Ex := _) (k1 := 266) (n1 := 2558) (As := [(0, 160)]) (st := [(2, 265), (2, 0)]) (st1 := fun r => [(2, 265), (2, 0)]) (pc := 107) dX8_init_107 ml_RX8_49 (by decide) (by decide) (Nat.le_of_ble_eq_true rfl) rfl rfl rfl (fun _ => rfl) (by decide) (by decide) (Nat.le_of_ble_eq_true rfl) rfl ?_
  refine a_aload_n (pc := 0) dX7_init_0 (by decide) rfl ?_
  refine a_obj (pc := 1) dX7_init_1 ol_RX7 w_oi w_oc (by decide) (by decide) (by decide) (Nat.le_of_ble_eq_true rfl) ?_
  refine a_aload_n (pc := 4) dX7_init_4 (by decide) rfl ?_
  refine a_iconst (pc := 5) dX7_init_5 (by decide) ?_
  refine a_iload_n (pc := 6) dX7_init_6 rfl ?_
  refine a_mmax (z := 160) (pc := 7) dX7_init_7 ml_RX7_7 is_max rfl (by decide) (by decide) (by decide) (by decide) (Nat.le_of_ble_eq_true rfl) ?_
  refine a_newA (N := 160) (t := 0) (x := 266) (S1 := sh_73) (pc := 10) dX7_init_10 (Or.inl ⟨rfl, rfl⟩) w_ai rfl (by decide) (by decide +kernel) (by decide) rfl ?_
  refine a_putR (rs := [(-1), (-1)]) (S1 := sh_74) (pc := 12) dX7_init_12 fl_RX7_13 (by decide) (by decide +kernel) rfl (by decide) rfl rfl rfl (gt_1 166 rfl rfl) (tyX7_ok 0 (by decide)) (fun _ => ⟨rfl, rfl⟩) (by decide) rfl ?_
  refine a_aload_n (pc := 15) dX7_init_15 (by decide) rfl ?_
  refine a_iconst (pc := 16) dX7_init_16 (by decide) ?_
  refine a_putI (y := 1) (rs := [266, (-1)]) (pc := 17) dX7_init_17 fl_RX7_19 (by decide) (by decide +kernel) rfl rfl (tyX7_ok 1 (by decide)) rfl ?_
  rw [show up2 mm_12 265 1 0 = mm_13 from rfl]
  refine a_vret (pc := 20) dX7_init_20 rfl rfl (by decide) ?_
  show AWG mX8_init _ 266 2558 110 [(2, 0)] [(2, 265), (2, 0)] sh_74 mm_13 _
  refine a_putR (rs := [1, 77, 153, 229, 246, 261, 263, (-1), (-1), (-1), (-1)]) (S1 := sh_75) (pc := 110) dX8_init_110 fl_RX8_56 (by decide) (by decide +kernel) rfl (by decide) rfl rfl rfl (gt_1 229 rfl rfl) (tyX8_ok 7 (by decide)) (fun _ => ⟨rfl, rfl⟩) (by decide) rfl ?_
  refine a_aload_n (pc := 113) dX8_init_113 (by decide) rfl ?_
  refine a_new (x := 267) (S1 := sh_76) (pc := 114) dX8_init_114 cn_RX8_59 (by decide +kernel) (by decide) rfl ?_
  refine a_dup (pc := 117) dX8_init_117 (by decide) ?_
  refine a_aload_n (pc := 118) dX8_init_118 (by decide) rfl ?_
  refine a_getR (y := 1) (rs := [1, 77, 153, 229, 246, 261, 263, 265, (-1), (-1), (-1)]) (pc := 119) dX8_init_119 fl_RX8_10 (by decide) (by decide +kernel) rfl rfl ?_
  refine a_aload_n (pc := 122) dX8_init_122 (by decide) rfl ?_
  refine a_getR (y := 263) (rs := [1, 77, 153, 229, 246, 261, 263, 265, (-1), (-1), (-1)]) (pc := 123) dX8_init_123 fl_RX8_52 (by decide) (by decide +kernel) rfl rfl ?_
  refine q_inlI (Ex := _) (k1 := 267) (n1 := 2565) (As := [(2, 1), (2, 263)]) (st := [(2, 267), (2, 0)]) (st1 := fun r => [(2, 267), (2, 0)]) (pc := 126) dX8_init_126 ml_RX8_61 (by decide) (by decide) (Nat.le_of_ble_eq_true rfl) rfl rfl rfl (fun _ => rfl) (by decide) (by decide) (Nat.le_of_ble_eq_true rfl) rfl ?_
  refine a_aload_n (pc := 0) dX4_init_0 (by decide) rfl ?_
  refine a_obj (pc := 1) dX4_init_1 ol_RX4 w_oi w_oc (by decide) (by decide) (by decide) (Nat.le_of_ble_eq_true rfl) ?_
  refine a_aload_n (pc := 4) dX4_init_4 (by decide) rfl ?_
  refine a_aload_n (pc := 5) dX4_init_5 (by decide) rfl ?_
  refine a_putR (rs := [(-1), (-1), (-1), (-1), (-1), (-1), (-1)]) (S1 := sh_77) (pc := 6) dX4_init_6 fl_RX4_9 (by decide) (by decide +kernel) rfl (by decide) rfl rfl rfl (gt_1 182 rfl rfl) (tyX4_ok 0 (by decide)) (fun _ => ⟨rfl, rfl⟩) (by decide) rfl ?_
  refine a_aload_n (pc := 9) dX4_init_9 (by decide) rfl ?_
  refine a_aload_n (pc := 10) dX4_init_10 (by decide) rfl ?_
  refine a_putR (rs := [1, (-1), (-1), (-1), (-1), (-1), (-1)]) (S1 := sh_78) (pc := 11) dX4_init_11 fl_RX4_15 (by decide) (by decide +kernel) rfl (by decide) rfl rfl rfl (gt_1 183 rfl rfl) (tyX4_ok 1 (by decide)) (fun _ => ⟨rfl, rfl⟩) (by decide) rfl ?_
  refine a_aload_n (pc := 14) dX4_init_14 (by decide) rfl ?_
  refine a_iconst (pc := 15) dX4_init_15 (by decide) ?_
  refine a_putI (y := 2) (rs := [1, 263, (-1), (-1), (-1), (-1), (-1)]) (pc := 16) dX4_init_16 fl_RX4_19 (by decide) (by decide +kernel) rfl rfl (tyX4_ok 2 (by decide)) rfl ?_
  rw [show up2 mm_13 267 2 0 = mm_14 from rfl]
  refine a_aload_n (pc := 19) dX4_init_19 (by decide) rfl ?_
  refine a_iconst (pc := 20) dX4_init_20 (by decide) ?_
  refine a_putI (y := 3) (rs := [1, 263, (-1), (-1), (-1), (-1), (-1)]) (pc := 21) dX4_init_21 fl_RX4_23 (by decide) (by decide +kernel) rfl rfl (tyX4_ok 3 (by decide)) rfl ?_
  rw [show up2 mm_14 267 3 0 = mm_15 from rfl]
  refine a_aload_n (pc := 24) dX4_init_24 (by decide) rfl ?_
  refine a_iconst (pc := 25) dX4_init_25 (by decide) ?_
  refine a_putI (y := 4) (rs := [1, 263, (-1), (-1), (-1), (-1), (-1)]) (pc := 26) dX4_init_26 fl_RX4_26 (by decide) (by decide +kernel) rfl rfl (tyX4_ok 4 (by decide)) rfl ?_
  rw [show up2 mm_15 267 4 0 = mm_16 from rfl]
  refine a_aload_n (pc := 29) dX4_init_29 (by decide) rfl ?_
  refine a_iconst (pc := 30) dX4_init_30 (by decide) ?_
  refine a_putI (y := 5) (rs := [1, 263, (-1), (-1), (-1), (-1), (-1)]) (pc := 31) dX4_init_31 fl_RX4_29 (by decide) (by decide +kernel) rfl rfl (tyX4_ok 5 (by decide)) rfl ?_
  rw [show up2 mm_16 267 5 0 = mm_17 from rfl]
  refine a_aload_n (pc := 34) dX4_init_34 (by decide) rfl ?_
  refine a_iconst (pc := 35) dX4_init_35 (by decide) ?_
  refine a_putI (y := 6) (rs := [1, 263, (-1), (-1), (-1), (-1), (-1)]) (pc := 36) dX4_init_36 fl_RX4_32 (by decide) (by decide +kernel) rfl rfl (tyX4_ok 6 (by decide)) rfl ?_
  rw [show up2 mm_17 267 6 0 = mm_18 from rfl]
  refine a_vret (pc := 39) dX4_init_39 rfl rfl (by decide) ?_
  show AWG mX8_init _ 267 2565 129 [(2, 0)] [(2, 267), (2, 0)] sh_78 mm_18 _
  refine a_putR (rs := [1, 77, 153, 229, 246, 261, 263, 265, (-1), (-1), (-1)]) (S1 := sh_79) (pc := 129) dX8_init_129 fl_RX8_64 (by decide) (by decide +kernel) rfl (by decide) rfl rfl rfl (gt_1 230 rfl rfl) (tyX8_ok 8 (by decide)) (fun _ => ⟨rfl, rfl⟩) (by decide) rfl ?_
  refine a_aload_n (pc := 132) dX8_init_132 (by decide) rfl ?_
  refine a_new (x := 268) (S1 := sh_80) (pc := 133) dX8_init_133 cn_RX8_68 (by decide +kernel) (by decide) rfl ?_
  refine a_dup (pc := 136) dX8_init_136 (by decide) ?_
  refine q_inlI (Ex := _) (k1 := 274) (n1 := 2655) (As := []) (st := [(2, 268), (2, 0)]) (st1 := fun r => [(2, 268), (2, 0)]) (pc := 137) dX8_init_137 ml_RX8_70 (by decide) (by decide) (Nat.le_of_ble_eq_true rfl) rfl rfl rfl (fun _ => rfl) (by decide) (by decide) (Nat.le_of_ble_eq_true rfl) rfl ?_
  refine a_aload_n (pc := 0) dX2_init_0 (by decide) rfl ?_
  refine a_obj (pc := 1) dX2_init_1 ol_RX2 w_oi w_oc (by decide) (by decide) (by decide) (Nat.le_of_ble_eq_true rfl) ?_
  refine a_aload_n (pc := 4) dX2_init_4 (by decide) rfl ?_
  refine a_iconst (pc := 5) dX2_init_5 (by decide) ?_
  refine a_bipush (pc := 6) dX2_init_6 (by decide) (by decide +kernel) ?_
  refine a_mna (N := 4) (W := 20) (x := 269) (S1 := sh_81) (pc := 8) dX2_init_8 ma_RX2_9 w_ai rfl rfl (by decide) (by decide) (by decide +kernel) (by decide) rfl ?_
  refine a_putR (rs := [(-1), (-1)]) (S1 := sh_82) (pc := 12) dX2_init_12 fl_RX2_11 (by decide) (by decide +kernel) rfl (by decide) rfl rfl rfl (gt_1 214 rfl rfl) (tyX2_ok 0 (by decide)) (fun _ => ⟨rfl, rfl⟩) (by decide) rfl ?_
  refine a_aload_n (pc := 15) dX2_init_15 (by decide) rfl ?_
  refine a_iconst (pc := 16) dX2_init_16 (by decide) ?_
  refine a_newA (N := 4) (t := 0) (x := 274) (S1 := sh_83) (pc := 17) dX2_init_17 (Or.inl ⟨rfl, rfl⟩) w_ai rfl (by decide) (by decide +kernel) (by decide) rfl ?_
  refine a_putR (rs := [269, (-1)]) (S1 := sh_84) (pc := 19) dX2_init_19 fl_RX2_14 (by decide) (by decide +kernel) rfl (by decide) rfl rfl rfl (gt_1 216 rfl rfl) (tyX2_ok 1 (by decide)) (fun _ => ⟨rfl, rfl⟩) (by decide) rfl ?_
  refine a_aload_n (pc := 22) dX2_init_22 (by decide) rfl ?_
  refine a_getR (y := 274) (rs := [269, 274]) (pc := 23) dX2_init_23 fl_RX2_14 (by decide) (by decide +kernel) rfl rfl ?_
  refine a_iconst (pc := 26) dX2_init_26 (by decide) ?_
  refine q_inlS (Ex := _) (k1 := 6) (n1 := 88) (As := [(2, 274), (0, (-1))]) (st := []) (st1 := fun r => []) (pc := 27) dX2_init_27 ml_RX2_18 (by decide) (Nat.le_of_ble_eq_true rfl) rfl rfl rfl (fun _ => rfl) (by decide) (by decide) (Nat.le_of_ble_eq_true rfl) rfl ?_
  refine a_iconst (pc := 0) dJ7_fill_53178_0 (by decide) ?_
  refine a_istore_n (ls1 := [(2, 274), (0, (-1)), (0, 0), (9, 0)]) (pc := 1) dJ7_fill_53178_1 (by decide) (hp1 (t := 0) rfl (by decide)) rfl ?_
  refine a_aload_n (pc := 2) dJ7_fill_53178_2 (by decide) rfl ?_
  refine a_alen (N := 4) (rs := []) (pc := 3) dJ7_fill_53178_3 (by decide) (by decide +kernel) (by decide) ?_
  refine a_eq (y := 4) rfl ?_
  refine a_istore_n (ls1 := [(2, 274), (0, (-1)), (0, 0), (0, 4)]) (pc := 4) dJ7_fill_53178_4 (by decide) (hp1 (t := 0) rfl (by decide)) rfl ?_
  refine a_iload_n (pc := 5) dJ7_fill_53178_5 rfl ?_
  refine a_iload_n (pc := 6) dJ7_fill_53178_6 rfl ?_
  refine a_icmp_ge (tgt := 20) (pc := 7) dJ7_fill_53178_7 (by decide) (fun hc => absurd hc (by decide)) (fun _ => ?_)
  refine a_aload_n (pc := 10) dJ7_fill_53178_10 (by decide) rfl ?_
  refine a_iload_n (pc := 11) dJ7_fill_53178_11 rfl ?_
  refine a_iload_n (pc := 12) dJ7_fill_53178_12 rfl ?_
  refine a_iast (N := 4) (rs := []) (pc := 13) dJ7_fill_53178_13 (by decide) (by decide +kernel) (by decide) (by decide) ?_
  rw [show up2 mm_18 274 0 (-1) = mm_19 from rfl]
  refine a_iinc (ls1 := [(2, 274), (0, (-1)), (0, 1), (0, 4)]) (pc := 14) dJ7_fill_53178_14 rfl (by decide) (hp1 (t := 0) rfl (by decide)) (by decide) rfl ?_
  refine a_goto (tgt := 5) (pc := 17) dJ7_fill_53178_17 (by decide) ?_
  refine a_iload_n (pc := 5) dJ7_fill_53178_5 rfl ?_
  refine a_iload_n (pc := 6) dJ7_fill_53178_6 rfl ?_
  refine a_icmp_ge (tgt := 20) (pc := 7) dJ7_fill_53178_7 (by decide) (fun hc => absurd hc (by decide)) (fun _ => ?_)
  refine a_aload_n (pc := 10) dJ7_fill_53178_10 (by decide) rfl ?_
  refine a_iload_n (pc := 11) dJ7_fill_53178_11 rfl ?_
  refine a_iload_n (pc := 12) dJ7_fill_53178_12 rfl ?_
  refine a_iast (N := 4) (rs := []) (pc := 13) dJ7_fill_53178_13 (by decide) (by decide +kernel) (by decide) (by decide) ?_
  rw [show up2 mm_19 274 1 (-1) = mm_20 from rfl]
  refine a_iinc (ls1 := [(2, 274), (0, (-1)), (0, 2), (0, 4)]) (pc := 14) dJ7_fill_53178_14 rfl (by decide) (hp1 (t := 0) rfl (by decide)) (by decide) rfl ?_
  refine a_goto (tgt := 5) (pc := 17) dJ7_fill_53178_17 (by decide) ?_
  refine a_iload_n (pc := 5) dJ7_fill_53178_5 rfl ?_
  refine a_iload_n (pc := 6) dJ7_fill_53178_6 rfl ?_
  refine a_icmp_ge (tgt := 20) (pc := 7) dJ7_fill_53178_7 (by decide) (fun hc => absurd hc (by decide)) (fun _ => ?_)
  refine a_aload_n (pc := 10) dJ7_fill_53178_10 (by decide) rfl ?_
  refine a_iload_n (pc := 11) dJ7_fill_53178_11 rfl ?_
  refine a_iload_n (pc := 12) dJ7_fill_53178_12 rfl ?_
  refine a_iast (N := 4) (rs := []) (pc := 13) dJ7_fill_53178_13 (by decide) (by decide +kernel) (by decide) (by decide) ?_
  rw [show up2 mm_20 274 2 (-1) = mm_21 from rfl]
  refine a_iinc (ls1 := [(2, 274), (0, (-1)), (0, 3), (0, 4)]) (pc := 14) dJ7_fill_53178_14 rfl (by decide) (hp1 (t := 0) rfl (by decide)) (by decide) rfl ?_
  refine a_goto (tgt := 5) (pc := 17) dJ7_fill_53178_17 (by decide) ?_
  refine a_iload_n (pc := 5) dJ7_fill_53178_5 rfl ?_
  refine a_iload_n (pc := 6) dJ7_fill_53178_6 rfl ?_
  refine a_icmp_ge (tgt := 20) (pc := 7) dJ7_fill_53178_7 (by decide) (fun hc => absurd hc (by decide)) (fun _ => ?_)
  refine a_aload_n (pc := 10) dJ7_fill_53178_10 (by decide) rfl ?_
  refine a_iload_n (pc := 11) dJ7_fill_53178_11 rfl ?_
  refine a_iload_n (pc := 12) dJ7_fill_53178_12 rfl ?_
  refine a_iast (N := 4) (rs := []) (pc := 13) dJ7_fill_53178_13 (by decide) (by decide +kernel) (by decide) (by decide) ?_
  rw [show up2 mm_21 274 3 (-1) = mm_22 from rfl]
  refine a_iinc (ls1 := [(2, 274), (0, (-1)), (0, 4), (0, 4)]) (pc := 14) dJ7_fill_53178_14 rfl (by decide) (hp1 (t := 0) rfl (by decide)) (by decide) rfl ?_
  refine a_goto (tgt := 5) (pc := 17) dJ7_fill_53178_17 (by decide) ?_
  refine a_iload_n (pc := 5) dJ7_fill_53178_5 rfl ?_
  refine a_iload_n (pc := 6) dJ7_fill_53178_6 rfl ?_
  refine a_icmp_ge (tgt := 20) (pc := 7) dJ7_fill_53178_7 (by decide) (fun _ => ?_) (fun hc => absurd (by decide) hc)
  refine a_vret (pc := 20) dJ7_fill_53178_20 rfl rfl (by decide) ?_
  show AWG mX2_init _ 6 88 30 [(2, 268)] [] sh_84 mm_22 _
  refine a_vret (pc := 30) dX2_init_30 rfl rfl (by decide) ?_
  show AWG mX8_init _ 274 2655 140 [(2, 0)] [(2, 268), (2, 0)] sh_84 mm_22 _
  refine a_putR (rs := [1, 77, 153, 229, 246, 261, 263, 265, 267, (-1), (-1)]) (S1 := sh_85) (pc := 140) dX8_init_140 fl_RX8_71 (by decide) (by decide +kernel) rfl (by decide) rfl rfl rfl (gt_1 231 rfl rfl) (tyX8_ok 9 (by decide)) (fun _ => ⟨rfl, rfl⟩) (by decide) rfl ?_
  refine a_aload_n (pc := 143) dX8_init_143 (by decide) rfl ?_
  refine a_iconst (pc := 144) dX8_init_144 (by decide) ?_
  refine a_putZ (y := 10) (rs := [1, 77, 153, 229, 246, 261, 263, 265, 267, 268, (-1)]) (pc := 145) dX8_init_145 fl_RX8_75 (by decide) (by decide +kernel) rfl rfl (tyX8_ok 10 (by decide)) rfl (by decide) ?_
  rw [show up2 mm_22 0 10 0 = mm_23 from rfl]
  refine a_vret (pc := 148) dX8_init_148 rfl rfl (by decide) ?_
  show AWG mL_law _ 275 2666 7 [(3, 0), (9, 0), (9, 0), (9, 0)] [(2, 0)] sh_85 mm_23 _
  refine a_astore_n (ls1 := [(3, 0), (2, 0), (9, 0), (9, 0)]) (pc := 7) dL_law_7 (by decide) (by decide) (hp1 (t := 3) rfl (by decide)) rfl ?_
  refine a_new (x := 275) (S1 := sh_86) (pc := 8) dL_law_8 cn_RL_10 (by decide +kernel) (by decide) rfl ?_
  refine a_dup (pc := 11) dL_law_11 (by decide) ?_
  refine q_inlI (Ex := _) (k1 := 299) (n1 := 5307) (As := []) (st := [(2, 275)]) (st1 := fun r => [(2, 275)]) (pc := 12) dL_law_12 ml_RL_12 (by decide) (by decide) (Nat.le_of_ble_eq_true rfl) rfl rfl rfl (fun _ => rfl) (by decide) (by decide) (Nat.le_of_ble_eq_true rfl) rfl ?_
  refine a_aload_n (pc := 0) dX9_init_0 (by decide) rfl ?_
  refine a_obj (pc := 1) dX9_init_1 ol_RX9 w_oi w_oc (by decide) (by decide) (by decide) (Nat.le_of_ble_eq_true rfl) ?_
  refine a_aload_n (pc := 4) dX9_init_4 (by decide) rfl ?_
  refine a_bipush (pc := 5) dX9_init_5 (by decide) (by decide +kernel) ?_
  refine a_newA (N := 8) (t := 0) (x := 276) (S1 := sh_87) (pc := 7) dX9_init_7 (Or.inl ⟨rfl, rfl⟩) w_ai rfl (by decide) (by decide +kernel) (by decide) rfl ?_
  refine a_putR (rs := [(-1), (-1), (-1), (-1), (-1), (-1), (-1), (-1), (-1), (-1), (-1), (-1), (-1), (-1), (-1), (-1), (-1), (-1), (-1), (-1), (-1), (-1), (-1), (-1), (-1), (-1), (-1), (-1), (-1), (-1), (-1), (-1), (-1), (-1), (-1), (-1), (-1), (-1), (-1), (-1), (-1)]) (S1 := sh_88) (pc := 9) dX9_init_9 fl_RX9_7 (by decide) (by decide +kernel) rfl (by decide) rfl rfl rfl (gt_4 0 rfl rfl) (tyX9_ok 1 (by decide)) (fun _ => ⟨rfl, rfl⟩) (by decide) rfl ?_
  refine a_aload_n (pc := 12) dX9_init_12 (by decide) rfl ?_
  refine a_bipush (pc := 13) dX9_init_13 (by decide) (by decide +kernel) ?_
  refine a_newA (N := 8) (t := 0) (x := 277) (S1 := sh_89) (pc := 15) dX9_init_15 (Or.inl ⟨rfl, rfl⟩) w_ai rfl (by decide) (by decide +kernel) (by decide) rfl ?_
  refine a_putR (rs := [(-1), 276, (-1), (-1), (-1), (-1), (-1), (-1), (-1), (-1), (-1), (-1), (-1), (-1), (-1), (-1), (-1), (-1), (-1), (-1), (-1), (-1), (-1), (-1), (-1), (-1), (-1), (-1), (-1), (-1), (-1), (-1), (-1), (-1), (-1), (-1), (-1), (-1), (-1), (-1), (-1)]) (S1 := sh_90) (pc := 17) dX9_init_17 fl_RX9_13 (by decide) (by decide +kernel) rfl (by decide) rfl rfl rfl (gt_4 1 rfl rfl) (tyX9_ok 2 (by decide)) (fun _ => ⟨rfl, rfl⟩) (by decide) rfl ?_
  refine a_aload_n (pc := 20) dX9_init_20 (by decide) rfl ?_
  refine a_bipush (pc := 21) dX9_init_21 (by decide) (by decide +kernel) ?_
  refine a_newA (N := 48) (t := 0) (x := 278) (S1 := sh_91) (pc := 23) dX9_init_23 (Or.inl ⟨rfl, rfl⟩) w_ai rfl (by decide) (by decide +kernel) (by decide) rfl ?_
  refine a_putR (rs := [(-1), 276, 277, (-1), (-1), (-1), (-1), (-1), (-1), (-1), (-1), (-1), (-1), (-1), (-1), (-1), (-1), (-1), (-1), (-1), (-1), (-1), (-1), (-1), (-1), (-1), (-1), (-1), (-1), (-1), (-1), (-1), (-1), (-1), (-1), (-1), (-1), (-1), (-1), (-1), (-1)]) (S1 := sh_92) (pc := 25) dX9_init_25 fl_RX9_16 (by decide) (by decide +kernel) rfl (by decide) rfl rfl rfl (gt_4 2 rfl rfl) (tyX9_ok 3 (by decide)) (fun _ => ⟨rfl, rfl⟩) (by decide) rfl ?_
  refine a_aload_n (pc := 28) dX9_init_28 (by decide) rfl ?_
  refine a_bipush (pc := 29) dX9_init_29 (by decide) (by decide +kernel) ?_
  refine a_newA (N := 8) (t := 0) (x := 279) (S1 := sh_93) (pc := 31) dX9_init_31 (Or.inl ⟨rfl, rfl⟩) w_ai rfl (by decide) (by decide +kernel) (by decide) rfl ?_
  refine a_putR (rs := [(-1), 276, 277, 278, (-1), (-1), (-1), (-1), (-1), (-1), (-1), (-1), (-1), (-1), (-1), (-1), (-1), (-1), (-1), (-1), (-1), (-1), (-1), (-1), (-1), (-1), (-1), (-1), (-1), (-1), (-1), (-1), (-1), (-1), (-1), (-1), (-1), (-1), (-1), (-1), (-1)]) (S1 := sh_94) (pc := 33) dX9_init_33 fl_RX9_19 (by decide) (by decide +kernel) rfl (by decide) rfl rfl rfl (gt_4 3 rfl rfl) (tyX9_ok 4 (by decide)) (fun _ => ⟨rfl, rfl⟩) (by decide) rfl ?_
  refine a_aload_n (pc := 36) dX9_init_36 (by decide) rfl ?_
  refine a_bipush (pc := 37) dX9_init_37 (by decide) (by decide +kernel) ?_
  refine a_newA (N := 48) (t := 0) (x := 280) (S1 := sh_95) (pc := 39) dX9_init_39 (Or.inl ⟨rfl, rfl⟩) w_ai rfl (by decide) (by decide +kernel) (by decide) rfl ?_
  refine a_putR (rs := [(-1), 276, 277, 278, 279, (-1), (-1), (-1), (-1), (-1), (-1), (-1), (-1), (-1), (-1), (-1), (-1), (-1), (-1), (-1), (-1), (-1), (-1), (-1), (-1), (-1), (-1), (-1), (-1), (-1), (-1), (-1), (-1), (-1), (-1), (-1), (-1), (-1), (-1), (-1), (-1)]) (S1 := sh_96) (pc := 41) dX9_init_41 fl_RX9_22 (by decide) (by decide +kernel) rfl (by decide) rfl rfl rfl (gt_4 4 rfl rfl) (tyX9_ok 5 (by decide)) (fun _ => ⟨rfl, rfl⟩) (by decide) rfl ?_
  refine a_aload_n (pc := 44) dX9_init_44 (by decide) rfl ?_
  refine a_sipush (pc := 45) dX9_init_45 (by decide) (by decide +kernel) ?_
  refine a_newA (N := 288) (t := 0) (x := 281) (S1 := sh_97) (pc := 48) dX9_init_48 (Or.inl ⟨rfl, rfl⟩) w_ai rfl (by decide) (by decide +kernel) (by decide) rfl ?_
  refine a_putR (rs := [(-1), 276, 277, 278, 279, 280, (-1), (-1), (-1), (-1), (-1), (-1), (-1), (-1), (-1), (-1), (-1), (-1), (-1), (-1), (-1), (-1), (-1), (-1), (-1), (-1), (-1), (-1), (-1), (-1), (-1), (-1), (-1), (-1), (-1), (-1), (-1), (-1), (-1), (-1), (-1)]) (S1 := sh_98) (pc := 50) dX9_init_50 fl_RX9_25 (by decide) (by decide +kernel) rfl (by decide) rfl rfl rfl (gt_4 5 rfl rfl) (tyX9_ok 6 (by decide)) (fun _ => ⟨rfl, rfl⟩) (by decide) rfl ?_
  refine a_aload_n (pc := 53) dX9_init_53 (by decide) rfl ?_
  refine a_sipush (pc := 54) dX9_init_54 (by decide) (by decide +kernel) ?_
  refine a_newA (N := 144) (t := 0) (x := 282) (S1 := sh_99) (pc := 57) dX9_init_57 (Or.inl ⟨rfl, rfl⟩) w_ai rfl (by decide) (by decide +kernel) (by decide) rfl ?_
  refine a_putR (rs := [(-1), 276, 277, 278, 279, 280, 281, (-1), (-1), (-1), (-1), (-1), (-1), (-1), (-1), (-1), (-1), (-1), (-1), (-1), (-1), (-1), (-1), (-1), (-1), (-1), (-1), (-1), (-1), (-1), (-1), (-1), (-1), (-1), (-1), (-1), (-1), (-1), (-1), (-1), (-1)]) (S1 := sh_100) (pc := 59) dX9_init_59 fl_RX9_28 (by decide) (by decide +kernel) rfl (by decide) rfl rfl rfl (gt_4 6 rfl rfl) (tyX9_ok 7 (by decide)) (fun _ => ⟨rfl, rfl⟩) (by decide) rfl ?_
  refine a_aload_n (pc := 62) dX9_init_62 (by decide) rfl ?_
  refine a_iconst (pc := 63) dX9_init_63 (by decide) ?_
  refine a_putI (y := 9) (rs := [(-1), 276, 277, 278, 279, 280, 281, 282, (-1), (-1), (-1), (-1), (-1), (-1), (-1), (-1), (-1), (-1), (-1), (-1), (-1), (-1), (-1), (-1), (-1), (-1), (-1), (-1), (-1), (-1), (-1), (-1), (-1), (-1), (-1), (-1), (-1), (-1), (-1), (-1), (-1)]) (pc := 64) dX9_init_64 fl_RX9_31 (by decide) (by decide +kernel) rfl rfl (tyX9_ok 9 (by decide)) rfl ?_
  rw [show up2 mm_23 275 9 (-1) = mm_24 from rfl]
  refine a_aload_n (pc := 67) dX9_init_67 (by decide) rfl ?_
  refine a_iconst (pc := 68) dX9_init_68 (by decide) ?_
  refine a_putI (y := 10) (rs := [(-1), 276, 277, 278, 279, 280, 281, 282, (-1), (-1), (-1), (-1), (-1), (-1), (-1), (-1), (-1), (-1), (-1), (-1), (-1), (-1), (-1), (-1), (-1), (-1), (-1), (-1), (-1), (-1), (-1), (-1), (-1), (-1), (-1), (-1), (-1), (-1), (-1), (-1), (-1)]) (pc := 69) dX9_init_69 fl_RX9_35 (by decide) (by decide +kernel) rfl rfl (tyX9_ok 10 (by decide)) rfl ?_
  rw [show up2 mm_24 275 10 (-1) = mm_25 from rfl]
  refine a_aload_n (pc := 72) dX9_init_72 (by decide) rfl ?_
  refine a_bipush (pc := 73) dX9_init_73 (by decide) (by decide +kernel) ?_
  refine a_newA (N := 84) (t := 0) (x := 283) (S1 := sh_101) (pc := 75) dX9_init_75 (Or.inl ⟨rfl, rfl⟩) w_ai rfl (by decide) (by decide +kernel) (by decide) rfl ?_
  refine a_putR (rs := [(-1), 276, 277, 278, 279, 280, 281, 282, (-1), (-1), (-1), (-1), (-1), (-1), (-1), (-1), (-1), (-1), (-1), (-1), (-1), (-1), (-1), (-1), (-1), (-1), (-1), (-1), (-1), (-1), (-1), (-1), (-1), (-1), (-1), (-1), (-1), (-1), (-1), (-1), (-1)]) (S1 := sh_102) (pc := 77) dX9_init_77 fl_RX9_38 (by decide) (by decide +kernel) rfl (by decide) rfl rfl rfl (gt_4 11 rfl rfl) (tyX9_ok 12 (by decide)) (fun _ => ⟨rfl, rfl⟩) (by decide) rfl ?_
  refine a_aload_n (pc := 80) dX9_init_80 (by decide) rfl ?_
  refine a_bipush (pc := 81) dX9_init_81 (by decide) (by decide +kernel) ?_
  refine a_newA (N := 84) (t := 0) (x := 284) (S1 := sh_103) (pc := 83) dX9_init_83 (Or.inl ⟨rfl, rfl⟩) w_ai rfl (by decide) (by decide +kernel) (by decide) rfl ?_
  refine a_putR (rs := [(-1), 276, 277, 278, 279, 280, 281, 282, (-1), (-1), (-1), (-1), 283, (-1), (-1), (-1), (-1), (-1), (-1), (-1), (-1), (-1), (-1), (-1), (-1), (-1), (-1), (-1), (-1), (-1), (-1), (-1), (-1), (-1), (-1), (-1), (-1), (-1), (-1), (-1), (-1)]) (S1 := sh_104) (pc := 85) dX9_init_85 fl_RX9_41 (by decide) (by decide +kernel) rfl (by decide) rfl rfl rfl (gt_4 12 rfl rfl) (tyX9_ok 13 (by decide)) (fun _ => ⟨rfl, rfl⟩) (by decide) rfl ?_
  refine a_aload_n (pc := 88) dX9_init_88 (by decide) rfl ?_
  refine a_bipush (pc := 89) dX9_init_89 (by decide) (by decide +kernel) ?_
  refine a_newA (N := 16) (t := 0) (x := 285) (S1 := sh_105) (pc := 91) dX9_init_91 (Or.inl ⟨rfl, rfl⟩) w_ai rfl (by decide) (by decide +kernel) (by decide) rfl ?_
  refine a_putR (rs := [(-1), 276, 277, 278, 279, 280, 281, 282, (-1), (-1), (-1), (-1), 283, 284, (-1), (-1), (-1), (-1), (-1), (-1), (-1), (-1), (-1), (-1), (-1), (-1), (-1), (-1), (-1), (-1), (-1), (-1), (-1), (-1), (-1), (-1), (-1), (-1), (-1), (-1), (-1)]) (S1 := sh_106) (pc := 93) dX9_init_93 fl_RX9_44 (by decide) (by decide +kernel) rfl (by decide) rfl rfl rfl (gt_4 14 rfl rfl) (tyX9_ok 15 (by decide)) (fun _ => ⟨rfl, rfl⟩) (by decide) rfl ?_
  refine a_aload_n (pc := 96) dX9_init_96 (by decide) rfl ?_
  refine a_bipush (pc := 97) dX9_init_97 (by decide) (by decide +kernel) ?_
  refine a_newA (N := 16) (t := 0) (x := 286) (S1 := sh_107) (pc := 99) dX9_init_99 (Or.inl ⟨rfl, rfl⟩) w_ai rfl (by decide) (by decide +kernel) (by decide) rfl ?_
  refine a_putR (rs := [(-1), 276, 277, 278, 279, 280, 281, 282, (-1), (-1), (-1), (-1), 283, 284, (-1), 285, (-1), (-1), (-1), (-1), (-1), (-1), (-1), (-1), (-1), (-1), (-1), (-1), (-1), (-1), (-1), (-1), (-1), (-1), (-1), (-1), (-1), (-1), (-1), (-1), (-1)]) (S1 := sh_108) (pc := 101) dX9_init_101 fl_RX9_47 (by decide) (by decide +kernel) rfl (by decide) rfl rfl rfl (gt_4 15 rfl rfl) (tyX9_ok 16 (by decide)) (fun _ => ⟨rfl, rfl⟩) (by decide) rfl ?_
  refine a_aload_n (pc := 104) dX9_init_104 (by decide) rfl ?_
  refine a_bipush (pc := 105) dX9_init_105 (by decide) (by decide +kernel) ?_
  refine a_newA (N := 16) (t := 0) (x := 287) (S1 := sh_109) (pc := 107) dX9_init_107 (Or.inl ⟨rfl, rfl⟩) w_ai rfl (by decide) (by decide +kernel) (by decide) rfl ?_
  refine a_putR (rs := [(-1), 276, 277, 278, 279, 280, 281, 282, (-1), (-1), (-1), (-1), 283, 284, (-1), 285, 286, (-1), (-1), (-1), (-1), (-1), (-1), (-1), (-1), (-1), (-1), (-1), (-1), (-1), (-1), (-1), (-1), (-1), (-1), (-1), (-1), (-1), (-1), (-1), (-1)]) (S1 := sh_110) (pc := 109) dX9_init_109 fl_RX9_50 (by decide) (by decide +kernel) rfl (by decide) rfl rfl rfl (gt_4 16 rfl rfl) (tyX9_ok 17 (by decide)) (fun _ => ⟨rfl, rfl⟩) (by decide) rfl ?_
  refine a_aload_n (pc := 112) dX9_init_112 (by decide) rfl ?_
  refine a_bipush (pc := 113) dX9_init_113 (by decide) (by decide +kernel) ?_
  refine a_newA (N := 16) (t := 0) (x := 288) (S1 := sh_111) (pc := 115) dX9_init_115 (Or.inl ⟨rfl, rfl⟩) w_ai rfl (by decide) (by decide +kernel) (by decide) rfl ?_
  refine a_putR (rs := [(-1), 276, 277, 278, 279, 280, 281, 282, (-1), (-1), (-1), (-1), 283, 284, (-1), 285, 286, 287, (-1), (-1), (-1), (-1), (-1), (-1), (-1), (-1), (-1), (-1), (-1), (-1), (-1), (-1), (-1), (-1), (-1), (-1), (-1), (-1), (-1), (-1), (-1)]) (S1 := sh_112) (pc := 117) dX9_init_117 fl_RX9_53 (by decide) (by decide +kernel) rfl (by decide) rfl rfl rfl (gt_4 17 rfl rfl) (tyX9_ok 18 (by decide)) (fun _ => ⟨rfl, rfl⟩) (by decide) rfl ?_
  refine a_aload_n (pc := 120) dX9_init_120 (by decide) rfl ?_
  refine a_bipush (pc := 121) dX9_init_121 (by decide) (by decide +kernel) ?_
  refine a_newA (N := 16) (t := 0) (x := 289) (S1 := sh_113) (pc := 123) dX9_init_123 (Or.inl ⟨rfl, rfl⟩) w_ai rfl (by decide) (by decide +kernel) (by decide) rfl ?_
  refine a_putR (rs := [(-1), 276, 277, 278, 279, 280, 281, 282, (-1), (-1), (-1), (-1), 283, 284, (-1), 285, 286, 287, 288, (-1), (-1), (-1), (-1), (-1), (-1), (-1), (-1), (-1), (-1), (-1), (-1), (-1), (-1), (-1), (-1), (-1), (-1), (-1), (-1), (-1), (-1)]) (S1 := sh_114) (pc := 125) dX9_init_125 fl_RX9_56 (by decide) (by decide +kernel) rfl (by decide) rfl rfl rfl (gt_4 18 rfl rfl) (tyX9_ok 19 (by decide)) (fun _ => ⟨rfl, rfl⟩) (by decide) rfl ?_
  refine a_aload_n (pc := 128) dX9_init_128 (by decide) rfl ?_
  refine a_bipush (pc := 129) dX9_init_129 (by decide) (by decide +kernel) ?_
  refine a_newA (N := 16) (t := 0) (x := 290) (S1 := sh_115) (pc := 131) dX9_init_131 (Or.inl ⟨rfl, rfl⟩) w_ai rfl (by decide) (by decide +kernel) (by decide) rfl ?_
  refine a_putR (rs := [(-1), 276, 277, 278, 279, 280, 281, 282, (-1), (-1), (-1), (-1), 283, 284, (-1), 285, 286, 287, 288, 289, (-1), (-1), (-1), (-1), (-1), (-1), (-1), (-1), (-1), (-1), (-1), (-1), (-1), (-1), (-1), (-1), (-1), (-1), (-1), (-1), (-1)]) (S1 := sh_116) (pc := 133) dX9_init_133 fl_RX9_59 (by decide) (by decide +kernel) rfl (by decide) rfl rfl rfl (gt_4 19 rfl rfl) (tyX9_ok 20 (by decide)) (fun _ => ⟨rfl, rfl⟩) (by decide) rfl ?_
  refine a_aload_n (pc := 136) dX9_init_136 (by decide) rfl ?_
  refine a_bipush (pc := 137) dX9_init_137 (by decide) (by decide +kernel) ?_
  refine a_newA (N := 16) (t := 0) (x := 291) (S1 := sh_117) (pc := 139) dX9_init_139 (Or.inl ⟨rfl, rfl⟩) w_ai rfl (by decide) (by decide +kernel) (by decide) rfl ?_
  refine a_putR (rs := [(-1), 276, 277, 278, 279, 280, 281, 282, (-1), (-1), (-1), (-1), 283, 284, (-1), 285, 286, 287, 288, 289, 290, (-1), (-1), (-1), (-1), (-1), (-1), (-1), (-1), (-1), (-1), (-1), (-1), (-1), (-1), (-1), (-1), (-1), (-1), (-1), (-1)]) (S1 := sh_118) (pc := 141) dX9_init_141 fl_RX9_62 (by decide) (by decide +kernel) rfl (by decide) rfl rfl rfl (gt_4 20 rfl rfl) (tyX9_ok 21 (by decide)) (fun _ => ⟨rfl, rfl⟩) (by decide) rfl ?_
  refine a_aload_n (pc := 144) dX9_init_144 (by decide) rfl ?_
  refine a_bipush (pc := 145) dX9_init_145 (by decide) (by decide +kernel) ?_
  refine a_newA (N := 80) (t := 0) (x := 292) (S1 := sh_119) (pc := 147) dX9_init_147 (Or.inl ⟨rfl, rfl⟩) w_ai rfl (by decide) (by decide +kernel) (by decide) rfl ?_
  refine a_putR (rs := [(-1), 276, 277, 278, 279, 280, 281, 282, (-1), (-1), (-1), (-1), 283, 284, (-1), 285, 286, 287, 288, 289, 290, 291, (-1), (-1), (-1), (-1), (-1), (-1), (-1), (-1), (-1), (-1), (-1), (-1), (-1), (-1), (-1), (-1), (-1), (-1), (-1)]) (S1 := sh_120) (pc := 149) dX9_init_149 fl_RX9_65 (by decide) (by decide +kernel) rfl (by decide) rfl rfl rfl (gt_4 24 rfl rfl) (tyX9_ok 25 (by decide)) (fun _ => ⟨rfl, rfl⟩) (by decide) rfl ?_
  refine a_aload_n (pc := 152) dX9_init_152 (by decide) rfl ?_
  refine a_sipush (pc := 153) dX9_init_153 (by decide) (by decide +kernel) ?_
  refine a_newA (N := 700) (t := 0) (x := 293) (S1 := sh_121) (pc := 156) dX9_init_156 (Or.inl ⟨rfl, rfl⟩) w_ai rfl (by decide) (by decide +kernel) (by decide) rfl ?_
  refine a_putR (rs := [(-1), 276, 277, 278, 279, 280, 281, 282, (-1), (-1), (-1), (-1), 283, 284, (-1), 285, 286, 287, 288, 289, 290, 291, (-1), (-1), (-1), 292, (-1), (-1), (-1), (-1), (-1), (-1), (-1), (-1), (-1), (-1), (-1), (-1), (-1), (-1), (-1)]) (S1 := sh_122) (pc := 158) dX9_init_158 fl_RX9_68 (by decide) (by decide +kernel) rfl (by decide) rfl rfl rfl (gt_4 29 rfl rfl) (tyX9_ok 30 (by decide)) (fun _ => ⟨rfl, rfl⟩) (by decide) rfl ?_
  refine a_aload_n (pc := 161) dX9_init_161 (by decide) rfl ?_
  refine a_sipush (pc := 162) dX9_init_162 (by decide) (by decide +kernel) ?_
  refine a_newA (N := 700) (t := 0) (x := 294) (S1 := sh_123) (pc := 165) dX9_init_165 (Or.inl ⟨rfl, rfl⟩) w_ai rfl (by decide) (by decide +kernel) (by decide) rfl ?_
  refine a_putR (rs := [(-1), 276, 277, 278, 279, 280, 281, 282, (-1), (-1), (-1), (-1), 283, 284, (-1), 285, 286, 287, 288, 289, 290, 291, (-1), (-1), (-1), 292, (-1), (-1), (-1), (-1), 293, (-1), (-1), (-1), (-1), (-1), (-1), (-1), (-1), (-1), (-1)]) (S1 := sh_124) (pc := 167) dX9_init_167 fl_RX9_71 (by decide) (by decide +kernel) rfl (by decide) rfl rfl rfl (gt_4 30 rfl rfl) (tyX9_ok 31 (by decide)) (fun _ => ⟨rfl, rfl⟩) (by decide) rfl ?_
  refine a_aload_n (pc := 170) dX9_init_170 (by decide) rfl ?_
  refine a_sipush (pc := 171) dX9_init_171 (by decide) (by decide +kernel) ?_
  refine a_newA (N := 200) (t := 0) (x := 295) (S1 := sh_125) (pc := 174) dX9_init_174 (Or.inl ⟨rfl, rfl⟩) w_ai rfl (by decide) (by decide +kernel) (by decide) rfl ?_
  refine a_putR (rs := [(-1), 276, 277, 278, 279, 280, 281, 282, (-1), (-1), (-1), (-1), 283, 284, (-1), 285, 286, 287, 288, 289, 290, 291, (-1), (-1), (-1), 292, (-1), (-1), (-1), (-1), 293, 294, (-1), (-1), (-1), (-1), (-1), (-1), (-1), (-1), (-1)]) (S1 := sh_126) (pc := 176) dX9_init_176 fl_RX9_74 (by decide) (by decide +kernel) rfl (by decide) rfl rfl rfl (gt_4 35 rfl rfl) (tyX9_ok 36 (by decide)) (fun _ => ⟨rfl, rfl⟩) (by decide) rfl ?_
  refine a_aload_n (pc := 179) dX9_init_179 (by decide) rfl ?_
  refine a_iconst (pc := 180) dX9_init_180 (by decide) ?_
  refine a_newA (N := 4) (t := 1) (x := 296) (S1 := sh_127) (pc := 181) dX9_init_181 (Or.inr ⟨rfl, rfl⟩) w_az rfl (by decide) (by decide +kernel) (by decide) rfl ?_
  refine a_putR (rs := [(-1), 276, 277, 278, 279, 280, 281, 282, (-1), (-1), (-1), (-1), 283, 284, (-1), 285, 286, 287, 288, 289, 290, 291, (-1), (-1), (-1), 292, (-1), (-1), (-1), (-1), 293, 294, (-1), (-1), (-1), (-1), 295, (-1), (-1), (-1), (-1)]) (S1 := sh_128) (pc := 183) dX9_init_183 fl_RX9_77 (by decide) (by decide +kernel) rfl (by decide) rfl rfl rfl (gt_4 37 rfl rfl) (tyX9_ok 38 (by decide)) (fun _ => ⟨rfl, rfl⟩) (by decide) rfl ?_
  refine a_aload_n (pc := 186) dX9_init_186 (by decide) rfl ?_
  refine a_iconst (pc := 187) dX9_init_187 (by decide) ?_
  refine a_newA (N := 4) (t := 0) (x := 297) (S1 := sh_129) (pc := 188) dX9_init_188 (Or.inl ⟨rfl, rfl⟩) w_ai rfl (by decide) (by decide +kernel) (by decide) rfl ?_
  refine a_putR (rs := [(-1), 276, 277, 278, 279, 280, 281, 282, (-1), (-1), (-1), (-1), 283, 284, (-1), 285, 286, 287, 288, 289, 290, 291, (-1), (-1), (-1), 292, (-1), (-1), (-1), (-1), 293, 294, (-1), (-1), (-1), (-1), 295, (-1), 296, (-1), (-1)]) (S1 := sh_130) (pc := 190) dX9_init_190 fl_RX9_81 (by decide) (by decide +kernel) rfl (by decide) rfl rfl rfl (gt_4 38 rfl rfl) (tyX9_ok 39 (by decide)) (fun _ => ⟨rfl, rfl⟩) (by decide) rfl ?_
  refine a_aload_n (pc := 193) dX9_init_193 (by decide) rfl ?_
  refine a_bipush (pc := 194) dX9_init_194 (by decide) (by decide +kernel) ?_
  refine a_newA (N := 80) (t := 0) (x := 298) (S1 := sh_131) (pc := 196) dX9_init_196 (Or.inl ⟨rfl, rfl⟩) w_ai rfl (by decide) (by decide +kernel) (by decide) rfl ?_
  refine a_putR (rs := [(-1), 276, 277, 278, 279, 280, 281, 282, (-1), (-1), (-1), (-1), 283, 284, (-1), 285, 286, 287, 288, 289, 290, 291, (-1), (-1), (-1), 292, (-1), (-1), (-1), (-1), 293, 294, (-1), (-1), (-1), (-1), 295, (-1), 296, 297, (-1)]) (S1 := sh_132) (pc := 198) dX9_init_198 fl_RX9_84 (by decide) (by decide +kernel) rfl (by decide) rfl rfl rfl (gt_4 39 rfl rfl) (tyX9_ok 40 (by decide)) (fun _ => ⟨rfl, rfl⟩) (by decide) rfl ?_
  refine a_aload_n (pc := 201) dX9_init_201 (by decide) rfl ?_
  refine a_iconst (pc := 202) dX9_init_202 (by decide) ?_
  refine a_putI (y := 8) (rs := [(-1), 276, 277, 278, 279, 280, 281, 282, (-1), (-1), (-1), (-1), 283, 284, (-1), 285, 286, 287, 288, 289, 290, 291, (-1), (-1), (-1), 292, (-1), (-1), (-1), (-1), 293, 294, (-1), (-1), (-1), (-1), 295, (-1), 296, 297, 298]) (pc := 203) dX9_init_203 fl_RX9_87 (by decide) (by decide +kernel) rfl rfl (tyX9_ok 8 (by decide)) rfl ?_
  rw [show up2 mm_25 275 8 0 = mm_26 from rfl]
  refine a_vret (pc := 206) dX9_init_206 rfl rfl (by decide) ?_
  show AWG mL_law _ 299 5307 15 [(3, 0), (2, 0), (9, 0), (9, 0)] [(2, 275)] sh_132 mm_26 _
  refine a_astore_n (ls1 := [(3, 0), (2, 0), (2, 275), (9, 0)]) (pc := 15) dL_law_15 (by decide) (by decide) (hp1 (t := 2) rfl (by decide)) rfl ?_
  refine a_iconst (pc := 16) dL_law_16 (by decide) ?_
  refine a_istore_n (ls1 := [(3, 0), (2, 0), (2, 275), (0, 0)]) (pc := 17) dL_law_17 (by decide) (hp1 (t := 2) rfl (by decide)) rfl ?_
  rw [sh_last]
  exact h
