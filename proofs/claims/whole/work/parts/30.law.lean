abbrev AWL (L : Nat) (xs : Nat → Int32) (pc : Nat) (ls : List AV) (M : Mem) (Q : Int → Mem → Prop) : Prop := AWG mL_law (ExL L xs) 299 5307 pc ls [] S0 M (fun r S1 M1 => S1 = S0 ∧ Q r M1)
set_option maxRecDepth 100000 in
set_option maxHeartbeats 4000000 in
theorem B_law_18 {L : Nat} {xs : Nat → Int32} (hL0 : (L : Int) ≤ 2147483647) {l3 : Int} {M : Mem} {Q : Int → Mem → Prop} (h : (-2147483648 ≤ (L : Int) - 7 ∧ (L : Int) - 7 ≤ 2147483647) ∧ ((((L : Int) - 7) < l3 → Q 1 M) ∧ (¬ (((L : Int) - 7) < l3) → ((0 : Int) ≤ l3 ∧ l3 < (L : Int)) ∧ (((((xs (l3).toNat).toInt) % 64) < 0 ∨ 34 < (((xs (l3).toNat).toInt) % 64) → AWL L xs 1637 [(3, 0), (2, 0), (2, 275), (0, l3)] M Q) ∧ ((((xs (l3).toNat).toInt) % 64) = 0 → AWL L xs 188 [(3, 0), (2, 0), (2, 275), (0, l3)] M Q) ∧ ((((xs (l3).toNat).toInt) % 64) = 1 → AWL L xs 211 [(3, 0), (2, 0), (2, 275), (0, l3)] M Q) ∧ ((((xs (l3).toNat).toInt) % 64) = 2 → AWL L xs 224 [(3, 0), (2, 0), (2, 275), (0, l3)] M Q) ∧ ((((xs (l3).toNat).toInt) % 64) = 3 → AWL L xs 237 [(3, 0), (2, 0), (2, 275), (0, l3)] M Q) ∧ ((((xs (l3).toNat).toInt) % 64) = 4 → AWL L xs 270 [(3, 0), (2, 0), (2, 275), (0, l3)] M Q) ∧ ((((xs (l3).toNat).toInt) % 64) = 5 → AWL L xs 303 [(3, 0), (2, 0), (2, 275), (0, l3)] M Q) ∧ ((((xs (l3).toNat).toInt) % 64) = 6 → AWL L xs 346 [(3, 0), (2, 0), (2, 275), (0, l3)] M Q) ∧ ((((xs (l3).toNat).toInt) % 64) = 7 → AWL L xs 379 [(3, 0), (2, 0), (2, 275), (0, l3)] M Q) ∧ ((((xs (l3).toNat).toInt) % 64) = 8 → AWL L xs 412 [(3, 0), (2, 0), (2, 275), (0, l3)] M Q) ∧ ((((xs (l3).toNat).toInt) % 64) = 9 → AWL L xs 455 [(3, 0), (2, 0), (2, 275), (0, l3)] M Q) ∧ ((((xs (l3).toNat).toInt) % 64) = 10 → AWL L xs 508 [(3, 0), (2, 0), (2, 275), (0, l3)] M Q) ∧ ((((xs (l3).toNat).toInt) % 64) = 11 → AWL L xs 531 [(3, 0), (2, 0), (2, 275), (0, l3)] M Q) ∧ ((((xs (l3).toNat).toInt) % 64) = 12 → AWL L xs 584 [(3, 0), (2, 0), (2, 275), (0, l3)] M Q) ∧ ((((xs (l3).toNat).toInt) % 64) = 13 → AWL L xs 627 [(3, 0), (2, 0), (2, 275), (0, l3)] M Q) ∧ ((((xs (l3).toNat).toInt) % 64) = 14 → AWL L xs 680 [(3, 0), (2, 0), (2, 275), (0, l3)] M Q) ∧ ((((xs (l3).toNat).toInt) % 64) = 15 → AWL L xs 755 [(3, 0), (2, 0), (2, 275), (0, l3)] M Q) ∧ ((((xs (l3).toNat).toInt) % 64) = 16 → AWL L xs 808 [(3, 0), (2, 0), (2, 275), (0, l3)] M Q) ∧ ((((xs (l3).toNat).toInt) % 64) = 17 → AWL L xs 861 [(3, 0), (2, 0), (2, 275), (0, l3)] M Q) ∧ ((((xs (l3).toNat).toInt) % 64) = 18 → AWL L xs 914 [(3, 0), (2, 0), (2, 275), (0, l3)] M Q) ∧ ((((xs (l3).toNat).toInt) % 64) = 19 → AWL L xs 989 [(3, 0), (2, 0), (2, 275), (0, l3)] M Q) ∧ ((((xs (l3).toNat).toInt) % 64) = 20 → AWL L xs 1042 [(3, 0), (2, 0), (2, 275), (0, l3)] M Q) ∧ ((((xs (l3).toNat).toInt) % 64) = 21 → AWL L xs 1105 [(3, 0), (2, 0), (2, 275), (0, l3)] M Q) ∧ ((((xs (l3).toNat).toInt) % 64) = 22 → AWL L xs 1168 [(3, 0), (2, 0), (2, 275), (0, l3)] M Q) ∧ ((((xs (l3).toNat).toInt) % 64) = 23 → AWL L xs 1221 [(3, 0), (2, 0), (2, 275), (0, l3)] M Q) ∧ ((((xs (l3).toNat).toInt) % 64) = 24 → AWL L xs 1244 [(3, 0), (2, 0), (2, 275), (0, l3)] M Q) ∧ ((((xs (l3).toNat).toInt) % 64) = 25 → AWL L xs 1277 [(3, 0), (2, 0), (2, 275), (0, l3)] M Q) ∧ ((((xs (l3).toNat).toInt) % 64) = 26 → AWL L xs 1330 [(3, 0), (2, 0), (2, 275), (0, l3)] M Q) ∧ ((((xs (l3).toNat).toInt) % 64) = 27 → AWL L xs 1353 [(3, 0), (2, 0), (2, 275), (0, l3)] M Q) ∧ ((((xs (l3).toNat).toInt) % 64) = 28 → AWL L xs 1376 [(3, 0), (2, 0), (2, 275), (0, l3)] M Q) ∧ ((((xs (l3).toNat).toInt) % 64) = 29 → AWL L xs 1409 [(3, 0), (2, 0), (2, 275), (0, l3)] M Q) ∧ ((((xs (l3).toNat).toInt) % 64) = 30 → AWL L xs 1452 [(3, 0), (2, 0), (2, 275), (0, l3)] M Q) ∧ ((((xs (l3).toNat).toInt) % 64) = 31 → AWL L xs 1485 [(3, 0), (2, 0), (2, 275), (0, l3)] M Q) ∧ ((((xs (l3).toNat).toInt) % 64) = 32 → AWL L xs 1548 [(3, 0), (2, 0), (2, 275), (0, l3)] M Q) ∧ ((((xs (l3).toNat).toInt) % 64) = 33 → AWL L xs 1611 [(3, 0), (2, 0), (2, 275), (0, l3)] M Q) ∧ ((((xs (l3).toNat).toInt) % 64) = 34 → AWL L xs 1624 [(3, 0), (2, 0), (2, 275), (0, l3)] M Q))))) : AWL L xs 18 [(3, 0), (2, 0), (2, 275), (0, l3)] M Q := by
  refine a_iload_n (pc := 18) dL_law_18 rfl ?_
  refine a_saload_n (pc := 19) dL_law_19 rfl ?_
  refine a_salen (pc := 20) dL_law_20 hL0 ?_
  refine a_bipush (pc := 21) dL_law_21 (by decide) (by decide +kernel) ?_
  have ho1 := h.1
  replace h := h.2
  refine a_isub (pc := 23) dL_law_23 ho1 ?_
  refine a_icmp_gt (tgt := 1643) (pc := 24) dL_law_24 (by decide) (fun hc2 => ?_) (fun hc2 => ?_)
  · replace h := h.1 hc2
    refine a_iconst (pc := 1643) dL_law_1643 (by decide) ?_
    exact a_iretz (pc := 1644) dL_law_1644 rfl rfl (Nat.le_of_ble_eq_true rfl) (by decide) ⟨rfl, h⟩
  · replace h := h.2 hc2
    refine a_saload_n (pc := 27) dL_law_27 rfl ?_
    refine a_iload_n (pc := 28) dL_law_28 rfl ?_
    have ho3 := h.1
    replace h := h.2
    refine a_sald (pc := 29) dL_law_29 ho3.1 ho3.2 ?_
    refine a_bipush (pc := 30) dL_law_30 (by decide) (by decide +kernel) ?_
    refine a_iand (q := 6) (z := ((xs (l3).toNat).toInt) % 64) (pc := 32) dL_law_32 (by decide) (by decide) rfl ?_
    rcases (show (((xs (l3).toNat).toInt) % 64) < 0 ∨ 34 < (((xs (l3).toNat).toInt) % 64) ∨ (((xs (l3).toNat).toInt) % 64) = 0 ∨ (((xs (l3).toNat).toInt) % 64) = 1 ∨ (((xs (l3).toNat).toInt) % 64) = 2 ∨ (((xs (l3).toNat).toInt) % 64) = 3 ∨ (((xs (l3).toNat).toInt) % 64) = 4 ∨ (((xs (l3).toNat).toInt) % 64) = 5 ∨ (((xs (l3).toNat).toInt) % 64) = 6 ∨ (((xs (l3).toNat).toInt) % 64) = 7 ∨ (((xs (l3).toNat).toInt) % 64) = 8 ∨ (((xs (l3).toNat).toInt) % 64) = 9 ∨ (((xs (l3).toNat).toInt) % 64) = 10 ∨ (((xs (l3).toNat).toInt) % 64) = 11 ∨ (((xs (l3).toNat).toInt) % 64) = 12 ∨ (((xs (l3).toNat).toInt) % 64) = 13 ∨ (((xs (l3).toNat).toInt) % 64) = 14 ∨ (((xs (l3).toNat).toInt) % 64) = 15 ∨ (((xs (l3).toNat).toInt) % 64) = 16 ∨ (((xs (l3).toNat).toInt) % 64) = 17 ∨ (((xs (l3).toNat).toInt) % 64) = 18 ∨ (((xs (l3).toNat).toInt) % 64) = 19 ∨ (((xs (l3).toNat).toInt) % 64) = 20 ∨ (((xs (l3).toNat).toInt) % 64) = 21 ∨ (((xs (l3).toNat).toInt) % 64) = 22 ∨ (((xs (l3).toNat).toInt) % 64) = 23 ∨ (((xs (l3).toNat).toInt) % 64) = 24 ∨ (((xs (l3).toNat).toInt) % 64) = 25 ∨ (((xs (l3).toNat).toInt) % 64) = 26 ∨ (((xs (l3).toNat).toInt) % 64) = 27 ∨ (((xs (l3).toNat).toInt) % 64) = 28 ∨ (((xs (l3).toNat).toInt) % 64) = 29 ∨ (((xs (l3).toNat).toInt) % 64) = 30 ∨ (((xs (l3).toNat).toInt) % 64) = 31 ∨ (((xs (l3).toNat).toInt) % 64) = 32 ∨ (((xs (l3).toNat).toInt) % 64) = 33 ∨ (((xs (l3).toNat).toInt) % 64) = 34 by omega) with hc | hc | hc | hc | hc | hc | hc | hc | hc | hc | hc | hc | hc | hc | hc | hc | hc | hc | hc | hc | hc | hc | hc | hc | hc | hc | hc | hc | hc | hc | hc | hc | hc | hc | hc | hc | hc
    · replace h := h.1 (by omega)
      refine a_tabOut (tgt := 1637) (pc := 33) dL_law_33 (by omega) (by decide) ?_
      exact h
    · replace h := h.1 (by omega)
      refine a_tabOut (tgt := 1637) (pc := 33) dL_law_33 (by omega) (by decide) ?_
      exact h
    · replace h := h.2.1 hc
      refine a_tabIn (v := 0) (off := 155) (tgt := 188) (pc := 33) dL_law_33 hc (by decide) (by decide) rfl (by decide) ?_
      exact h
    · replace h := h.2.2.1 hc
      refine a_tabIn (v := 1) (off := 178) (tgt := 211) (pc := 33) dL_law_33 hc (by decide) (by decide) rfl (by decide) ?_
      exact h
    · replace h := h.2.2.2.1 hc
      refine a_tabIn (v := 2) (off := 191) (tgt := 224) (pc := 33) dL_law_33 hc (by decide) (by decide) rfl (by decide) ?_
      exact h
    · replace h := h.2.2.2.2.1 hc
      refine a_tabIn (v := 3) (off := 204) (tgt := 237) (pc := 33) dL_law_33 hc (by decide) (by decide) rfl (by decide) ?_
      exact h
    · replace h := h.2.2.2.2.2.1 hc
      refine a_tabIn (v := 4) (off := 237) (tgt := 270) (pc := 33) dL_law_33 hc (by decide) (by decide) rfl (by decide) ?_
      exact h
    · replace h := h.2.2.2.2.2.2.1 hc
      refine a_tabIn (v := 5) (off := 270) (tgt := 303) (pc := 33) dL_law_33 hc (by decide) (by decide) rfl (by decide) ?_
      exact h
    · replace h := h.2.2.2.2.2.2.2.1 hc
      refine a_tabIn (v := 6) (off := 313) (tgt := 346) (pc := 33) dL_law_33 hc (by decide) (by decide) rfl (by decide) ?_
      exact h
    · replace h := h.2.2.2.2.2.2.2.2.1 hc
      refine a_tabIn (v := 7) (off := 346) (tgt := 379) (pc := 33) dL_law_33 hc (by decide) (by decide) rfl (by decide) ?_
      exact h
    · replace h := h.2.2.2.2.2.2.2.2.2.1 hc
      refine a_tabIn (v := 8) (off := 379) (tgt := 412) (pc := 33) dL_law_33 hc (by decide) (by decide) rfl (by decide) ?_
      exact h
    · replace h := h.2.2.2.2.2.2.2.2.2.2.1 hc
      refine a_tabIn (v := 9) (off := 422) (tgt := 455) (pc := 33) dL_law_33 hc (by decide) (by decide) rfl (by decide) ?_
      exact h
    · replace h := h.2.2.2.2.2.2.2.2.2.2.2.1 hc
      refine a_tabIn (v := 10) (off := 475) (tgt := 508) (pc := 33) dL_law_33 hc (by decide) (by decide) rfl (by decide) ?_
      exact h
    · replace h := h.2.2.2.2.2.2.2.2.2.2.2.2.1 hc
      refine a_tabIn (v := 11) (off := 498) (tgt := 531) (pc := 33) dL_law_33 hc (by decide) (by decide) rfl (by decide) ?_
      exact h
    · replace h := h.2.2.2.2.2.2.2.2.2.2.2.2.2.1 hc
      refine a_tabIn (v := 12) (off := 551) (tgt := 584) (pc := 33) dL_law_33 hc (by decide) (by decide) rfl (by decide) ?_
      exact h
    · replace h := h.2.2.2.2.2.2.2.2.2.2.2.2.2.2.1 hc
      refine a_tabIn (v := 13) (off := 594) (tgt := 627) (pc := 33) dL_law_33 hc (by decide) (by decide) rfl (by decide) ?_
      exact h
    · replace h := h.2.2.2.2.2.2.2.2.2.2.2.2.2.2.2.1 hc
      refine a_tabIn (v := 14) (off := 647) (tgt := 680) (pc := 33) dL_law_33 hc (by decide) (by decide) rfl (by decide) ?_
      exact h
    · replace h := h.2.2.2.2.2.2.2.2.2.2.2.2.2.2.2.2.1 hc
      refine a_tabIn (v := 15) (off := 722) (tgt := 755) (pc := 33) dL_law_33 hc (by decide) (by decide) rfl (by decide) ?_
      exact h
    · replace h := h.2.2.2.2.2.2.2.2.2.2.2.2.2.2.2.2.2.1 hc
      refine a_tabIn (v := 16) (off := 775) (tgt := 808) (pc := 33) dL_law_33 hc (by decide) (by decide) rfl (by decide) ?_
      exact h
    · replace h := h.2.2.2.2.2.2.2.2.2.2.2.2.2.2.2.2.2.2.1 hc
      refine a_tabIn (v := 17) (off := 828) (tgt := 861) (pc := 33) dL_law_33 hc (by decide) (by decide) rfl (by decide) ?_
      exact h
    · replace h := h.2.2.2.2.2.2.2.2.2.2.2.2.2.2.2.2.2.2.2.1 hc
      refine a_tabIn (v := 18) (off := 881) (tgt := 914) (pc := 33) dL_law_33 hc (by decide) (by decide) rfl (by decide) ?_
      exact h
    · replace h := h.2.2.2.2.2.2.2.2.2.2.2.2.2.2.2.2.2.2.2.2.1 hc
      refine a_tabIn (v := 19) (off := 956) (tgt := 989) (pc := 33) dL_law_33 hc (by decide) (by decide) rfl (by decide) ?_
      exact h
    · replace h := h.2.2.2.2.2.2.2.2.2.2.2.2.2.2.2.2.2.2.2.2.2.1 hc
      refine a_tabIn (v := 20) (off := 1009) (tgt := 1042) (pc := 33) dL_law_33 hc (by decide) (by decide) rfl (by decide) ?_
      exact h
    · replace h := h.2.2.2.2.2.2.2.2.2.2.2.2.2.2.2.2.2.2.2.2.2.2.1 hc
      refine a_tabIn (v := 21) (off := 1072) (tgt := 1105) (pc := 33) dL_law_33 hc (by decide) (by decide) rfl (by decide) ?_
      exact h
    · replace h := h.2.2.2.2.2.2.2.2.2.2.2.2.2.2.2.2.2.2.2.2.2.2.2.1 hc
      refine a_tabIn (v := 22) (off := 1135) (tgt := 1168) (pc := 33) dL_law_33 hc (by decide) (by decide) rfl (by decide) ?_
      exact h
    · replace h := h.2.2.2.2.2.2.2.2.2.2.2.2.2.2.2.2.2.2.2.2.2.2.2.2.1 hc
      refine a_tabIn (v := 23) (off := 1188) (tgt := 1221) (pc := 33) dL_law_33 hc (by decide) (by decide) rfl (by decide) ?_
      exact h
    · replace h := h.2.2.2.2.2.2.2.2.2.2.2.2.2.2.2.2.2.2.2.2.2.2.2.2.2.1 hc
      refine a_tabIn (v := 24) (off := 1211) (tgt := 1244) (pc := 33) dL_law_33 hc (by decide) (by decide) rfl (by decide) ?_
      exact h
    · replace h := h.2.2.2.2.2.2.2.2.2.2.2.2.2.2.2.2.2.2.2.2.2.2.2.2.2.2.1 hc
      refine a_tabIn (v := 25) (off := 1244) (tgt := 1277) (pc := 33) dL_law_33 hc (by decide) (by decide) rfl (by decide) ?_
      exact h
    · replace h := h.2.2.2.2.2.2.2.2.2.2.2.2.2.2.2.2.2.2.2.2.2.2.2.2.2.2.2.1 hc
      refine a_tabIn (v := 26) (off := 1297) (tgt := 1330) (pc := 33) dL_law_33 hc (by decide) (by decide) rfl (by decide) ?_
      exact h
    · replace h := h.2.2.2.2.2.2.2.2.2.2.2.2.2.2.2.2.2.2.2.2.2.2.2.2.2.2.2.2.1 hc
      refine a_tabIn (v := 27) (off := 1320) (tgt := 1353) (pc := 33) dL_law_33 hc (by decide) (by decide) rfl (by decide) ?_
      exact h
    · replace h := h.2.2.2.2.2.2.2.2.2.2.2.2.2.2.2.2.2.2.2.2.2.2.2.2.2.2.2.2.2.1 hc
      refine a_tabIn (v := 28) (off := 1343) (tgt := 1376) (pc := 33) dL_law_33 hc (by decide) (by decide) rfl (by decide) ?_
      exact h
    · replace h := h.2.2.2.2.2.2.2.2.2.2.2.2.2.2.2.2.2.2.2.2.2.2.2.2.2.2.2.2.2.2.1 hc
      refine a_tabIn (v := 29) (off := 1376) (tgt := 1409) (pc := 33) dL_law_33 hc (by decide) (by decide) rfl (by decide) ?_
      exact h
    · replace h := h.2.2.2.2.2.2.2.2.2.2.2.2.2.2.2.2.2.2.2.2.2.2.2.2.2.2.2.2.2.2.2.1 hc
      refine a_tabIn (v := 30) (off := 1419) (tgt := 1452) (pc := 33) dL_law_33 hc (by decide) (by decide) rfl (by decide) ?_
      exact h
    · replace h := h.2.2.2.2.2.2.2.2.2.2.2.2.2.2.2.2.2.2.2.2.2.2.2.2.2.2.2.2.2.2.2.2.1 hc
      refine a_tabIn (v := 31) (off := 1452) (tgt := 1485) (pc := 33) dL_law_33 hc (by decide) (by decide) rfl (by decide) ?_
      exact h
    · replace h := h.2.2.2.2.2.2.2.2.2.2.2.2.2.2.2.2.2.2.2.2.2.2.2.2.2.2.2.2.2.2.2.2.2.1 hc
      refine a_tabIn (v := 32) (off := 1515) (tgt := 1548) (pc := 33) dL_law_33 hc (by decide) (by decide) rfl (by decide) ?_
      exact h
    · replace h := h.2.2.2.2.2.2.2.2.2.2.2.2.2.2.2.2.2.2.2.2.2.2.2.2.2.2.2.2.2.2.2.2.2.2.1 hc
      refine a_tabIn (v := 33) (off := 1578) (tgt := 1611) (pc := 33) dL_law_33 hc (by decide) (by decide) rfl (by decide) ?_
      exact h
    · replace h := h.2.2.2.2.2.2.2.2.2.2.2.2.2.2.2.2.2.2.2.2.2.2.2.2.2.2.2.2.2.2.2.2.2.2.2 hc
      refine a_tabIn (v := 34) (off := 1591) (tgt := 1624) (pc := 33) dL_law_33 hc (by decide) (by decide) rfl (by decide) ?_
      exact h
set_option maxRecDepth 100000 in
set_option maxHeartbeats 4000000 in
theorem B_law_188 {L : Nat} {xs : Nat → Int32} (hL0 : (L : Int) ≤ 2147483647) {l3 : Int} {M : Mem} {Q : Int → Mem → Prop} (h : (-2147483648 ≤ l3 + 1 ∧ l3 + 1 ≤ 2147483647) ∧ ((0 : Int) ≤ l3 + 1 ∧ l3 + 1 < (L : Int)) ∧ Calls mX8_feed [(2, 0), (0, (xs (l3 + 1).toNat).toInt)] S0 M (fun r3 M4 => Calls mX9_feed [(2, 275), (0, (xs (l3 + 1).toNat).toInt)] S0 M4 (fun r5 M6 => ((r3 = r5 → AWL L xs 1637 [(3, 0), (2, 0), (2, 275), (0, l3)] M6 Q) ∧ (¬ r3 = r5 → Q 0 M6))))) : AWL L xs 188 [(3, 0), (2, 0), (2, 275), (0, l3)] M Q := by
  refine a_aload_n (pc := 188) dL_law_188 (by decide) rfl ?_
  refine a_saload_n (pc := 189) dL_law_189 rfl ?_
  refine a_iload_n (pc := 190) dL_law_190 rfl ?_
  refine a_iconst (pc := 191) dL_law_191 (by decide) ?_
  have ho1 := h.1
  replace h := h.2
  refine a_iadd (pc := 192) dL_law_192 ho1 ?_
  have ho2 := h.1
  replace h := h.2
  refine a_sald (pc := 193) dL_law_193 ho2.1 ho2.2 ?_
  refine p_callV (As := [(0, (xs (l3 + 1).toNat).toInt)]) (st := []) (st1 := fun r => [(0, r)])  (pc := 194) dL_law_194 ml_RL_13 (by decide) s0_0 rfl (by decide) (Nat.le_of_ble_eq_true rfl) rfl (fun _ => rfl) h (fun r3 M4 h => ?_)
  refine a_aload_n (pc := 197) dL_law_197 (by decide) rfl ?_
  refine a_saload_n (pc := 198) dL_law_198 rfl ?_
  refine a_iload_n (pc := 199) dL_law_199 rfl ?_
  refine a_iconst (pc := 200) dL_law_200 (by decide) ?_
  refine a_iadd (pc := 201) dL_law_201 ho1 ?_
  refine a_sald (pc := 202) dL_law_202 ho2.1 ho2.2 ?_
  refine p_callV (As := [(0, (xs (l3 + 1).toNat).toInt)]) (st := [(0, r3)]) (st1 := fun r => [(0, r), (0, r3)])  (pc := 203) dL_law_203 ml_RL_17 (by decide) s0_275 rfl (by decide) (Nat.le_of_ble_eq_true rfl) rfl (fun _ => rfl) h (fun r5 M6 h => ?_)
  refine a_icmp_eq (tgt := 1637) (pc := 206) dL_law_206 (by decide) (fun hc7 => ?_) (fun hc7 => ?_)
  · replace h := h.1 hc7
    exact h
  · replace h := h.2 hc7
    refine a_iconst (pc := 209) dL_law_209 (by decide) ?_
    exact a_iretz (pc := 210) dL_law_210 rfl rfl (Nat.le_of_ble_eq_true rfl) (by decide) ⟨rfl, h⟩
set_option maxRecDepth 100000 in
set_option maxHeartbeats 4000000 in
theorem B_law_211 {L : Nat} {xs : Nat → Int32} (hL0 : (L : Int) ≤ 2147483647) {l3 : Int} {M : Mem} {Q : Int → Mem → Prop} (h : Calls mX8_clear [(2, 0)] S0 M (fun r1 M2 => Calls mX9_clear [(2, 275)] S0 M2 (fun r3 M4 => ((r1 = r3 → AWL L xs 1637 [(3, 0), (2, 0), (2, 275), (0, l3)] M4 Q) ∧ (¬ r1 = r3 → Q 0 M4))))) : AWL L xs 211 [(3, 0), (2, 0), (2, 275), (0, l3)] M Q := by
  refine a_aload_n (pc := 211) dL_law_211 (by decide) rfl ?_
  refine p_callV (As := []) (st := []) (st1 := fun r => [(0, r)])  (pc := 212) dL_law_212 ml_RL_18 (by decide) s0_0 rfl (by decide) (Nat.le_of_ble_eq_true rfl) rfl (fun _ => rfl) h (fun r1 M2 h => ?_)
  refine a_aload_n (pc := 215) dL_law_215 (by decide) rfl ?_
  refine p_callV (As := []) (st := [(0, r1)]) (st1 := fun r => [(0, r), (0, r1)])  (pc := 216) dL_law_216 ml_RL_22 (by decide) s0_275 rfl (by decide) (Nat.le_of_ble_eq_true rfl) rfl (fun _ => rfl) h (fun r3 M4 h => ?_)
  refine a_icmp_eq (tgt := 1637) (pc := 219) dL_law_219 (by decide) (fun hc5 => ?_) (fun hc5 => ?_)
  · replace h := h.1 hc5
    exact h
  · replace h := h.2 hc5
    refine a_iconst (pc := 222) dL_law_222 (by decide) ?_
    exact a_iretz (pc := 223) dL_law_223 rfl rfl (Nat.le_of_ble_eq_true rfl) (by decide) ⟨rfl, h⟩
set_option maxRecDepth 100000 in
set_option maxHeartbeats 4000000 in
theorem B_law_224 {L : Nat} {xs : Nat → Int32} (hL0 : (L : Int) ≤ 2147483647) {l3 : Int} {M : Mem} {Q : Int → Mem → Prop} (h : Calls mX8_table [(2, 0)] S0 M (fun r1 M2 => Calls mX9_table [(2, 275)] S0 M2 (fun r3 M4 => ((r1 = r3 → AWL L xs 1637 [(3, 0), (2, 0), (2, 275), (0, l3)] M4 Q) ∧ (¬ r1 = r3 → Q 0 M4))))) : AWL L xs 224 [(3, 0), (2, 0), (2, 275), (0, l3)] M Q := by
  refine a_aload_n (pc := 224) dL_law_224 (by decide) rfl ?_
  refine p_callV (As := []) (st := []) (st1 := fun r => [(0, r)])  (pc := 225) dL_law_225 ml_RL_23 (by decide) s0_0 rfl (by decide) (Nat.le_of_ble_eq_true rfl) rfl (fun _ => rfl) h (fun r1 M2 h => ?_)
  refine a_aload_n (pc := 228) dL_law_228 (by decide) rfl ?_
  refine p_callV (As := []) (st := [(0, r1)]) (st1 := fun r => [(0, r), (0, r1)])  (pc := 229) dL_law_229 ml_RL_26 (by decide) s0_275 rfl (by decide) (Nat.le_of_ble_eq_true rfl) rfl (fun _ => rfl) h (fun r3 M4 h => ?_)
  refine a_icmp_eq (tgt := 1637) (pc := 232) dL_law_232 (by decide) (fun hc5 => ?_) (fun hc5 => ?_)
  · replace h := h.1 hc5
    exact h
  · replace h := h.2 hc5
    refine a_iconst (pc := 235) dL_law_235 (by decide) ?_
    exact a_iretz (pc := 236) dL_law_236 rfl rfl (Nat.le_of_ble_eq_true rfl) (by decide) ⟨rfl, h⟩
set_option maxRecDepth 100000 in
set_option maxHeartbeats 4000000 in
theorem B_law_237 {L : Nat} {xs : Nat → Int32} (hL0 : (L : Int) ≤ 2147483647) {l3 : Int} {M : Mem} {Q : Int → Mem → Prop} (h : (-2147483648 ≤ l3 + 1 ∧ l3 + 1 ≤ 2147483647) ∧ ((0 : Int) ≤ l3 + 1 ∧ l3 + 1 < (L : Int)) ∧ (-2147483648 ≤ l3 + 2 ∧ l3 + 2 ≤ 2147483647) ∧ ((0 : Int) ≤ l3 + 2 ∧ l3 + 2 < (L : Int)) ∧ Calls mX8_line [(2, 0), (0, (xs (l3 + 1).toNat).toInt), (0, (xs (l3 + 2).toNat).toInt)] S0 M (fun r5 M6 => Calls mX9_line [(2, 275), (0, (xs (l3 + 1).toNat).toInt), (0, (xs (l3 + 2).toNat).toInt)] S0 M6 (fun r7 M8 => ((r5 = r7 → AWL L xs 1637 [(3, 0), (2, 0), (2, 275), (0, l3)] M8 Q) ∧ (¬ r5 = r7 → Q 0 M8))))) : AWL L xs 237 [(3, 0), (2, 0), (2, 275), (0, l3)] M Q := by
  refine a_aload_n (pc := 237) dL_law_237 (by decide) rfl ?_
  refine a_saload_n (pc := 238) dL_law_238 rfl ?_
  refine a_iload_n (pc := 239) dL_law_239 rfl ?_
  refine a_iconst (pc := 240) dL_law_240 (by decide) ?_
  have ho1 := h.1
  replace h := h.2
  refine a_iadd (pc := 241) dL_law_241 ho1 ?_
  have ho2 := h.1
  replace h := h.2
  refine a_sald (pc := 242) dL_law_242 ho2.1 ho2.2 ?_
  refine a_saload_n (pc := 243) dL_law_243 rfl ?_
  refine a_iload_n (pc := 244) dL_law_244 rfl ?_
  refine a_iconst (pc := 245) dL_law_245 (by decide) ?_
  have ho3 := h.1
  replace h := h.2
  refine a_iadd (pc := 246) dL_law_246 ho3 ?_
  have ho4 := h.1
  replace h := h.2
  refine a_sald (pc := 247) dL_law_247 ho4.1 ho4.2 ?_
  refine p_callV (As := [(0, (xs (l3 + 1).toNat).toInt), (0, (xs (l3 + 2).toNat).toInt)]) (st := []) (st1 := fun r => [(0, r)])  (pc := 248) dL_law_248 ml_RL_27 (by decide) s0_0 rfl (by decide) (Nat.le_of_ble_eq_true rfl) rfl (fun _ => rfl) h (fun r5 M6 h => ?_)
  refine a_aload_n (pc := 251) dL_law_251 (by decide) rfl ?_
  refine a_saload_n (pc := 252) dL_law_252 rfl ?_
  refine a_iload_n (pc := 253) dL_law_253 rfl ?_
  refine a_iconst (pc := 254) dL_law_254 (by decide) ?_
  refine a_iadd (pc := 255) dL_law_255 ho1 ?_
  refine a_sald (pc := 256) dL_law_256 ho2.1 ho2.2 ?_
  refine a_saload_n (pc := 257) dL_law_257 rfl ?_
  refine a_iload_n (pc := 258) dL_law_258 rfl ?_
  refine a_iconst (pc := 259) dL_law_259 (by decide) ?_
  refine a_iadd (pc := 260) dL_law_260 ho3 ?_
  refine a_sald (pc := 261) dL_law_261 ho4.1 ho4.2 ?_
  refine p_callV (As := [(0, (xs (l3 + 1).toNat).toInt), (0, (xs (l3 + 2).toNat).toInt)]) (st := [(0, r5)]) (st1 := fun r => [(0, r), (0, r5)])  (pc := 262) dL_law_262 ml_RL_31 (by decide) s0_275 rfl (by decide) (Nat.le_of_ble_eq_true rfl) rfl (fun _ => rfl) h (fun r7 M8 h => ?_)
  refine a_icmp_eq (tgt := 1637) (pc := 265) dL_law_265 (by decide) (fun hc9 => ?_) (fun hc9 => ?_)
  · replace h := h.1 hc9
    exact h
  · replace h := h.2 hc9
    refine a_iconst (pc := 268) dL_law_268 (by decide) ?_
    exact a_iretz (pc := 269) dL_law_269 rfl rfl (Nat.le_of_ble_eq_true rfl) (by decide) ⟨rfl, h⟩
set_option maxRecDepth 100000 in
set_option maxHeartbeats 4000000 in
theorem B_law_270 {L : Nat} {xs : Nat → Int32} (hL0 : (L : Int) ≤ 2147483647) {l3 : Int} {M : Mem} {Q : Int → Mem → Prop} (h : (-2147483648 ≤ l3 + 1 ∧ l3 + 1 ≤ 2147483647) ∧ ((0 : Int) ≤ l3 + 1 ∧ l3 + 1 < (L : Int)) ∧ (-2147483648 ≤ l3 + 2 ∧ l3 + 2 ≤ 2147483647) ∧ ((0 : Int) ≤ l3 + 2 ∧ l3 + 2 < (L : Int)) ∧ Calls mX8_stop [(2, 0), (0, (xs (l3 + 1).toNat).toInt), (0, (xs (l3 + 2).toNat).toInt)] S0 M (fun r5 M6 => Calls mX9_stop [(2, 275), (0, (xs (l3 + 1).toNat).toInt), (0, (xs (l3 + 2).toNat).toInt)] S0 M6 (fun r7 M8 => ((r5 = r7 → AWL L xs 1637 [(3, 0), (2, 0), (2, 275), (0, l3)] M8 Q) ∧ (¬ r5 = r7 → Q 0 M8))))) : AWL L xs 270 [(3, 0), (2, 0), (2, 275), (0, l3)] M Q := by
  refine a_aload_n (pc := 270) dL_law_270 (by decide) rfl ?_
  refine a_saload_n (pc := 271) dL_law_271 rfl ?_
  refine a_iload_n (pc := 272) dL_law_272 rfl ?_
  refine a_iconst (pc := 273) dL_law_273 (by decide) ?_
  have ho1 := h.1
  replace h := h.2
  refine a_iadd (pc := 274) dL_law_274 ho1 ?_
  have ho2 := h.1
  replace h := h.2
  refine a_sald (pc := 275) dL_law_275 ho2.1 ho2.2 ?_
  refine a_saload_n (pc := 276) dL_law_276 rfl ?_
  refine a_iload_n (pc := 277) dL_law_277 rfl ?_
  refine a_iconst (pc := 278) dL_law_278 (by decide) ?_
  have ho3 := h.1
  replace h := h.2
  refine a_iadd (pc := 279) dL_law_279 ho3 ?_
  have ho4 := h.1
  replace h := h.2
  refine a_sald (pc := 280) dL_law_280 ho4.1 ho4.2 ?_
  refine p_callV (As := [(0, (xs (l3 + 1).toNat).toInt), (0, (xs (l3 + 2).toNat).toInt)]) (st := []) (st1 := fun r => [(0, r)])  (pc := 281) dL_law_281 ml_RL_32 (by decide) s0_0 rfl (by decide) (Nat.le_of_ble_eq_true rfl) rfl (fun _ => rfl) h (fun r5 M6 h => ?_)
  refine a_aload_n (pc := 284) dL_law_284 (by decide) rfl ?_
  refine a_saload_n (pc := 285) dL_law_285 rfl ?_
  refine a_iload_n (pc := 286) dL_law_286 rfl ?_
  refine a_iconst (pc := 287) dL_law_287 (by decide) ?_
  refine a_iadd (pc := 288) dL_law_288 ho1 ?_
  refine a_sald (pc := 289) dL_law_289 ho2.1 ho2.2 ?_
  refine a_saload_n (pc := 290) dL_law_290 rfl ?_
  refine a_iload_n (pc := 291) dL_law_291 rfl ?_
  refine a_iconst (pc := 292) dL_law_292 (by decide) ?_
  refine a_iadd (pc := 293) dL_law_293 ho3 ?_
  refine a_sald (pc := 294) dL_law_294 ho4.1 ho4.2 ?_
  refine p_callV (As := [(0, (xs (l3 + 1).toNat).toInt), (0, (xs (l3 + 2).toNat).toInt)]) (st := [(0, r5)]) (st1 := fun r => [(0, r), (0, r5)])  (pc := 295) dL_law_295 ml_RL_35 (by decide) s0_275 rfl (by decide) (Nat.le_of_ble_eq_true rfl) rfl (fun _ => rfl) h (fun r7 M8 h => ?_)
  refine a_icmp_eq (tgt := 1637) (pc := 298) dL_law_298 (by decide) (fun hc9 => ?_) (fun hc9 => ?_)
  · replace h := h.1 hc9
    exact h
  · replace h := h.2 hc9
    refine a_iconst (pc := 301) dL_law_301 (by decide) ?_
    exact a_iretz (pc := 302) dL_law_302 rfl rfl (Nat.le_of_ble_eq_true rfl) (by decide) ⟨rfl, h⟩
set_option maxRecDepth 100000 in
set_option maxHeartbeats 4000000 in
theorem B_law_303 {L : Nat} {xs : Nat → Int32} (hL0 : (L : Int) ≤ 2147483647) {l3 : Int} {M : Mem} {Q : Int → Mem → Prop} (h : (-2147483648 ≤ l3 + 1 ∧ l3 + 1 ≤ 2147483647) ∧ ((0 : Int) ≤ l3 + 1 ∧ l3 + 1 < (L : Int)) ∧ (-2147483648 ≤ l3 + 2 ∧ l3 + 2 ≤ 2147483647) ∧ ((0 : Int) ≤ l3 + 2 ∧ l3 + 2 < (L : Int)) ∧ (-2147483648 ≤ l3 + 3 ∧ l3 + 3 ≤ 2147483647) ∧ ((0 : Int) ≤ l3 + 3 ∧ l3 + 3 < (L : Int)) ∧ Calls mX8_minute [(2, 0), (0, (xs (l3 + 1).toNat).toInt), (0, (xs (l3 + 2).toNat).toInt), (0, (xs (l3 + 3).toNat).toInt)] S0 M (fun r7 M8 => Calls mX9_minute [(2, 275), (0, (xs (l3 + 1).toNat).toInt), (0, (xs (l3 + 2).toNat).toInt), (0, (xs (l3 + 3).toNat).toInt)] S0 M8 (fun r9 M10 => ((r7 = r9 → AWL L xs 1637 [(3, 0), (2, 0), (2, 275), (0, l3)] M10 Q) ∧ (¬ r7 = r9 → Q 0 M10))))) : AWL L xs 303 [(3, 0), (2, 0), (2, 275), (0, l3)] M Q := by
  refine a_aload_n (pc := 303) dL_law_303 (by decide) rfl ?_
  refine a_saload_n (pc := 304) dL_law_304 rfl ?_
  refine a_iload_n (pc := 305) dL_law_305 rfl ?_
  refine a_iconst (pc := 306) dL_law_306 (by decide) ?_
  have ho1 := h.1
  replace h := h.2
  refine a_iadd (pc := 307) dL_law_307 ho1 ?_
  have ho2 := h.1
  replace h := h.2
  refine a_sald (pc := 308) dL_law_308 ho2.1 ho2.2 ?_
  refine a_saload_n (pc := 309) dL_law_309 rfl ?_
  refine a_iload_n (pc := 310) dL_law_310 rfl ?_
  refine a_iconst (pc := 311) dL_law_311 (by decide) ?_
  have ho3 := h.1
  replace h := h.2
  refine a_iadd (pc := 312) dL_law_312 ho3 ?_
  have ho4 := h.1
  replace h := h.2
  refine a_sald (pc := 313) dL_law_313 ho4.1 ho4.2 ?_
  refine a_saload_n (pc := 314) dL_law_314 rfl ?_
  refine a_iload_n (pc := 315) dL_law_315 rfl ?_
  refine a_iconst (pc := 316) dL_law_316 (by decide) ?_
  have ho5 := h.1
  replace h := h.2
  refine a_iadd (pc := 317) dL_law_317 ho5 ?_
  have ho6 := h.1
  replace h := h.2
  refine a_sald (pc := 318) dL_law_318 ho6.1 ho6.2 ?_
  refine p_callV (As := [(0, (xs (l3 + 1).toNat).toInt), (0, (xs (l3 + 2).toNat).toInt), (0, (xs (l3 + 3).toNat).toInt)]) (st := []) (st1 := fun r => [(0, r)])  (pc := 319) dL_law_319 ml_RL_36 (by decide) s0_0 rfl (by decide) (Nat.le_of_ble_eq_true rfl) rfl (fun _ => rfl) h (fun r7 M8 h => ?_)
  refine a_aload_n (pc := 322) dL_law_322 (by decide) rfl ?_
  refine a_saload_n (pc := 323) dL_law_323 rfl ?_
  refine a_iload_n (pc := 324) dL_law_324 rfl ?_
  refine a_iconst (pc := 325) dL_law_325 (by decide) ?_
  refine a_iadd (pc := 326) dL_law_326 ho1 ?_
  refine a_sald (pc := 327) dL_law_327 ho2.1 ho2.2 ?_
  refine a_saload_n (pc := 328) dL_law_328 rfl ?_
  refine a_iload_n (pc := 329) dL_law_329 rfl ?_
  refine a_iconst (pc := 330) dL_law_330 (by decide) ?_
  refine a_iadd (pc := 331) dL_law_331 ho3 ?_
  refine a_sald (pc := 332) dL_law_332 ho4.1 ho4.2 ?_
  refine a_saload_n (pc := 333) dL_law_333 rfl ?_
  refine a_iload_n (pc := 334) dL_law_334 rfl ?_
  refine a_iconst (pc := 335) dL_law_335 (by decide) ?_
  refine a_iadd (pc := 336) dL_law_336 ho5 ?_
  refine a_sald (pc := 337) dL_law_337 ho6.1 ho6.2 ?_
  refine p_callV (As := [(0, (xs (l3 + 1).toNat).toInt), (0, (xs (l3 + 2).toNat).toInt), (0, (xs (l3 + 3).toNat).toInt)]) (st := [(0, r7)]) (st1 := fun r => [(0, r), (0, r7)])  (pc := 338) dL_law_338 ml_RL_40 (by decide) s0_275 rfl (by decide) (Nat.le_of_ble_eq_true rfl) rfl (fun _ => rfl) h (fun r9 M10 h => ?_)
  refine a_icmp_eq (tgt := 1637) (pc := 341) dL_law_341 (by decide) (fun hc11 => ?_) (fun hc11 => ?_)
  · replace h := h.1 hc11
    exact h
  · replace h := h.2 hc11
    refine a_iconst (pc := 344) dL_law_344 (by decide) ?_
    exact a_iretz (pc := 345) dL_law_345 rfl rfl (Nat.le_of_ble_eq_true rfl) (by decide) ⟨rfl, h⟩
set_option maxRecDepth 100000 in
set_option maxHeartbeats 4000000 in
theorem B_law_346 {L : Nat} {xs : Nat → Int32} (hL0 : (L : Int) ≤ 2147483647) {l3 : Int} {M : Mem} {Q : Int → Mem → Prop} (h : (-2147483648 ≤ l3 + 1 ∧ l3 + 1 ≤ 2147483647) ∧ ((0 : Int) ≤ l3 + 1 ∧ l3 + 1 < (L : Int)) ∧ (-2147483648 ≤ l3 + 2 ∧ l3 + 2 ≤ 2147483647) ∧ ((0 : Int) ≤ l3 + 2 ∧ l3 + 2 < (L : Int)) ∧ Calls mX8_runs [(2, 0), (0, (xs (l3 + 1).toNat).toInt), (0, (xs (l3 + 2).toNat).toInt)] S0 M (fun r5 M6 => Calls mX9_runs [(2, 275), (0, (xs (l3 + 1).toNat).toInt), (0, (xs (l3 + 2).toNat).toInt)] S0 M6 (fun r7 M8 => ((r5 = r7 → AWL L xs 1637 [(3, 0), (2, 0), (2, 275), (0, l3)] M8 Q) ∧ (¬ r5 = r7 → Q 0 M8))))) : AWL L xs 346 [(3, 0), (2, 0), (2, 275), (0, l3)] M Q := by
  refine a_aload_n (pc := 346) dL_law_346 (by decide) rfl ?_
  refine a_saload_n (pc := 347) dL_law_347 rfl ?_
  refine a_iload_n (pc := 348) dL_law_348 rfl ?_
  refine a_iconst (pc := 349) dL_law_349 (by decide) ?_
  have ho1 := h.1
  replace h := h.2
  refine a_iadd (pc := 350) dL_law_350 ho1 ?_
  have ho2 := h.1
  replace h := h.2
  refine a_sald (pc := 351) dL_law_351 ho2.1 ho2.2 ?_
  refine a_saload_n (pc := 352) dL_law_352 rfl ?_
  refine a_iload_n (pc := 353) dL_law_353 rfl ?_
  refine a_iconst (pc := 354) dL_law_354 (by decide) ?_
  have ho3 := h.1
  replace h := h.2
  refine a_iadd (pc := 355) dL_law_355 ho3 ?_
  have ho4 := h.1
  replace h := h.2
  refine a_sald (pc := 356) dL_law_356 ho4.1 ho4.2 ?_
  refine p_callV (As := [(0, (xs (l3 + 1).toNat).toInt), (0, (xs (l3 + 2).toNat).toInt)]) (st := []) (st1 := fun r => [(0, r)])  (pc := 357) dL_law_357 ml_RL_41 (by decide) s0_0 rfl (by decide) (Nat.le_of_ble_eq_true rfl) rfl (fun _ => rfl) h (fun r5 M6 h => ?_)
  refine a_aload_n (pc := 360) dL_law_360 (by decide) rfl ?_
  refine a_saload_n (pc := 361) dL_law_361 rfl ?_
  refine a_iload_n (pc := 362) dL_law_362 rfl ?_
  refine a_iconst (pc := 363) dL_law_363 (by decide) ?_
  refine a_iadd (pc := 364) dL_law_364 ho1 ?_
  refine a_sald (pc := 365) dL_law_365 ho2.1 ho2.2 ?_
  refine a_saload_n (pc := 366) dL_law_366 rfl ?_
  refine a_iload_n (pc := 367) dL_law_367 rfl ?_
  refine a_iconst (pc := 368) dL_law_368 (by decide) ?_
  refine a_iadd (pc := 369) dL_law_369 ho3 ?_
  refine a_sald (pc := 370) dL_law_370 ho4.1 ho4.2 ?_
  refine p_callV (As := [(0, (xs (l3 + 1).toNat).toInt), (0, (xs (l3 + 2).toNat).toInt)]) (st := [(0, r5)]) (st1 := fun r => [(0, r), (0, r5)])  (pc := 371) dL_law_371 ml_RL_44 (by decide) s0_275 rfl (by decide) (Nat.le_of_ble_eq_true rfl) rfl (fun _ => rfl) h (fun r7 M8 h => ?_)
  refine a_icmp_eq (tgt := 1637) (pc := 374) dL_law_374 (by decide) (fun hc9 => ?_) (fun hc9 => ?_)
  · replace h := h.1 hc9
    exact h
  · replace h := h.2 hc9
    refine a_iconst (pc := 377) dL_law_377 (by decide) ?_
    exact a_iretz (pc := 378) dL_law_378 rfl rfl (Nat.le_of_ble_eq_true rfl) (by decide) ⟨rfl, h⟩
set_option maxRecDepth 100000 in
set_option maxHeartbeats 4000000 in
theorem B_law_379 {L : Nat} {xs : Nat → Int32} (hL0 : (L : Int) ≤ 2147483647) {l3 : Int} {M : Mem} {Q : Int → Mem → Prop} (h : (-2147483648 ≤ l3 + 1 ∧ l3 + 1 ≤ 2147483647) ∧ ((0 : Int) ≤ l3 + 1 ∧ l3 + 1 < (L : Int)) ∧ (-2147483648 ≤ l3 + 2 ∧ l3 + 2 ≤ 2147483647) ∧ ((0 : Int) ≤ l3 + 2 ∧ l3 + 2 < (L : Int)) ∧ Calls mX8_foot [(2, 0), (0, (xs (l3 + 1).toNat).toInt), (0, (xs (l3 + 2).toNat).toInt)] S0 M (fun r5 M6 => Calls mX9_foot [(2, 275), (0, (xs (l3 + 1).toNat).toInt), (0, (xs (l3 + 2).toNat).toInt)] S0 M6 (fun r7 M8 => ((r5 = r7 → AWL L xs 1637 [(3, 0), (2, 0), (2, 275), (0, l3)] M8 Q) ∧ (¬ r5 = r7 → Q 0 M8))))) : AWL L xs 379 [(3, 0), (2, 0), (2, 275), (0, l3)] M Q := by
  refine a_aload_n (pc := 379) dL_law_379 (by decide) rfl ?_
  refine a_saload_n (pc := 380) dL_law_380 rfl ?_
  refine a_iload_n (pc := 381) dL_law_381 rfl ?_
  refine a_iconst (pc := 382) dL_law_382 (by decide) ?_
  have ho1 := h.1
  replace h := h.2
  refine a_iadd (pc := 383) dL_law_383 ho1 ?_
  have ho2 := h.1
  replace h := h.2
  refine a_sald (pc := 384) dL_law_384 ho2.1 ho2.2 ?_
  refine a_saload_n (pc := 385) dL_law_385 rfl ?_
  refine a_iload_n (pc := 386) dL_law_386 rfl ?_
  refine a_iconst (pc := 387) dL_law_387 (by decide) ?_
  have ho3 := h.1
  replace h := h.2
  refine a_iadd (pc := 388) dL_law_388 ho3 ?_
  have ho4 := h.1
  replace h := h.2
  refine a_sald (pc := 389) dL_law_389 ho4.1 ho4.2 ?_
  refine p_callV (As := [(0, (xs (l3 + 1).toNat).toInt), (0, (xs (l3 + 2).toNat).toInt)]) (st := []) (st1 := fun r => [(0, r)])  (pc := 390) dL_law_390 ml_RL_45 (by decide) s0_0 rfl (by decide) (Nat.le_of_ble_eq_true rfl) rfl (fun _ => rfl) h (fun r5 M6 h => ?_)
  refine a_aload_n (pc := 393) dL_law_393 (by decide) rfl ?_
  refine a_saload_n (pc := 394) dL_law_394 rfl ?_
  refine a_iload_n (pc := 395) dL_law_395 rfl ?_
  refine a_iconst (pc := 396) dL_law_396 (by decide) ?_
  refine a_iadd (pc := 397) dL_law_397 ho1 ?_
  refine a_sald (pc := 398) dL_law_398 ho2.1 ho2.2 ?_
  refine a_saload_n (pc := 399) dL_law_399 rfl ?_
  refine a_iload_n (pc := 400) dL_law_400 rfl ?_
  refine a_iconst (pc := 401) dL_law_401 (by decide) ?_
  refine a_iadd (pc := 402) dL_law_402 ho3 ?_
  refine a_sald (pc := 403) dL_law_403 ho4.1 ho4.2 ?_
  refine p_callV (As := [(0, (xs (l3 + 1).toNat).toInt), (0, (xs (l3 + 2).toNat).toInt)]) (st := [(0, r5)]) (st1 := fun r => [(0, r), (0, r5)])  (pc := 404) dL_law_404 ml_RL_48 (by decide) s0_275 rfl (by decide) (Nat.le_of_ble_eq_true rfl) rfl (fun _ => rfl) h (fun r7 M8 h => ?_)
  refine a_icmp_eq (tgt := 1637) (pc := 407) dL_law_407 (by decide) (fun hc9 => ?_) (fun hc9 => ?_)
  · replace h := h.1 hc9
    exact h
  · replace h := h.2 hc9
    refine a_iconst (pc := 410) dL_law_410 (by decide) ?_
    exact a_iretz (pc := 411) dL_law_411 rfl rfl (Nat.le_of_ble_eq_true rfl) (by decide) ⟨rfl, h⟩
set_option maxRecDepth 100000 in
set_option maxHeartbeats 4000000 in
theorem B_law_412 {L : Nat} {xs : Nat → Int32} (hL0 : (L : Int) ≤ 2147483647) {l3 : Int} {M : Mem} {Q : Int → Mem → Prop} (h : (-2147483648 ≤ l3 + 1 ∧ l3 + 1 ≤ 2147483647) ∧ ((0 : Int) ≤ l3 + 1 ∧ l3 + 1 < (L : Int)) ∧ (-2147483648 ≤ l3 + 2 ∧ l3 + 2 ≤ 2147483647) ∧ ((0 : Int) ≤ l3 + 2 ∧ l3 + 2 < (L : Int)) ∧ (-2147483648 ≤ l3 + 3 ∧ l3 + 3 ≤ 2147483647) ∧ ((0 : Int) ≤ l3 + 3 ∧ l3 + 3 < (L : Int)) ∧ Calls mX8_walk [(2, 0), (0, (xs (l3 + 1).toNat).toInt), (0, (xs (l3 + 2).toNat).toInt), (0, (xs (l3 + 3).toNat).toInt)] S0 M (fun r7 M8 => Calls mX9_walk [(2, 275), (0, (xs (l3 + 1).toNat).toInt), (0, (xs (l3 + 2).toNat).toInt), (0, (xs (l3 + 3).toNat).toInt)] S0 M8 (fun r9 M10 => ((r7 = r9 → AWL L xs 1637 [(3, 0), (2, 0), (2, 275), (0, l3)] M10 Q) ∧ (¬ r7 = r9 → Q 0 M10))))) : AWL L xs 412 [(3, 0), (2, 0), (2, 275), (0, l3)] M Q := by
  refine a_aload_n (pc := 412) dL_law_412 (by decide) rfl ?_
  refine a_saload_n (pc := 413) dL_law_413 rfl ?_
  refine a_iload_n (pc := 414) dL_law_414 rfl ?_
  refine a_iconst (pc := 415) dL_law_415 (by decide) ?_
  have ho1 := h.1
  replace h := h.2
  refine a_iadd (pc := 416) dL_law_416 ho1 ?_
  have ho2 := h.1
  replace h := h.2
  refine a_sald (pc := 417) dL_law_417 ho2.1 ho2.2 ?_
  refine a_saload_n (pc := 418) dL_law_418 rfl ?_
  refine a_iload_n (pc := 419) dL_law_419 rfl ?_
  refine a_iconst (pc := 420) dL_law_420 (by decide) ?_
  have ho3 := h.1
  replace h := h.2
  refine a_iadd (pc := 421) dL_law_421 ho3 ?_
  have ho4 := h.1
  replace h := h.2
  refine a_sald (pc := 422) dL_law_422 ho4.1 ho4.2 ?_
  refine a_saload_n (pc := 423) dL_law_423 rfl ?_
  refine a_iload_n (pc := 424) dL_law_424 rfl ?_
  refine a_iconst (pc := 425) dL_law_425 (by decide) ?_
  have ho5 := h.1
  replace h := h.2
  refine a_iadd (pc := 426) dL_law_426 ho5 ?_
  have ho6 := h.1
  replace h := h.2
  refine a_sald (pc := 427) dL_law_427 ho6.1 ho6.2 ?_
  refine p_callV (As := [(0, (xs (l3 + 1).toNat).toInt), (0, (xs (l3 + 2).toNat).toInt), (0, (xs (l3 + 3).toNat).toInt)]) (st := []) (st1 := fun r => [(0, r)])  (pc := 428) dL_law_428 ml_RL_49 (by decide) s0_0 rfl (by decide) (Nat.le_of_ble_eq_true rfl) rfl (fun _ => rfl) h (fun r7 M8 h => ?_)
  refine a_aload_n (pc := 431) dL_law_431 (by decide) rfl ?_
  refine a_saload_n (pc := 432) dL_law_432 rfl ?_
  refine a_iload_n (pc := 433) dL_law_433 rfl ?_
  refine a_iconst (pc := 434) dL_law_434 (by decide) ?_
  refine a_iadd (pc := 435) dL_law_435 ho1 ?_
  refine a_sald (pc := 436) dL_law_436 ho2.1 ho2.2 ?_
  refine a_saload_n (pc := 437) dL_law_437 rfl ?_
  refine a_iload_n (pc := 438) dL_law_438 rfl ?_
  refine a_iconst (pc := 439) dL_law_439 (by decide) ?_
  refine a_iadd (pc := 440) dL_law_440 ho3 ?_
  refine a_sald (pc := 441) dL_law_441 ho4.1 ho4.2 ?_
  refine a_saload_n (pc := 442) dL_law_442 rfl ?_
  refine a_iload_n (pc := 443) dL_law_443 rfl ?_
  refine a_iconst (pc := 444) dL_law_444 (by decide) ?_
  refine a_iadd (pc := 445) dL_law_445 ho5 ?_
  refine a_sald (pc := 446) dL_law_446 ho6.1 ho6.2 ?_
  refine p_callV (As := [(0, (xs (l3 + 1).toNat).toInt), (0, (xs (l3 + 2).toNat).toInt), (0, (xs (l3 + 3).toNat).toInt)]) (st := [(0, r7)]) (st1 := fun r => [(0, r), (0, r7)])  (pc := 447) dL_law_447 ml_RL_52 (by decide) s0_275 rfl (by decide) (Nat.le_of_ble_eq_true rfl) rfl (fun _ => rfl) h (fun r9 M10 h => ?_)
  refine a_icmp_eq (tgt := 1637) (pc := 450) dL_law_450 (by decide) (fun hc11 => ?_) (fun hc11 => ?_)
  · replace h := h.1 hc11
    exact h
  · replace h := h.2 hc11
    refine a_iconst (pc := 453) dL_law_453 (by decide) ?_
    exact a_iretz (pc := 454) dL_law_454 rfl rfl (Nat.le_of_ble_eq_true rfl) (by decide) ⟨rfl, h⟩
set_option maxRecDepth 100000 in
set_option maxHeartbeats 4000000 in
theorem B_law_455 {L : Nat} {xs : Nat → Int32} (hL0 : (L : Int) ≤ 2147483647) {l3 : Int} {M : Mem} {Q : Int → Mem → Prop} (h : (-2147483648 ≤ l3 + 1 ∧ l3 + 1 ≤ 2147483647) ∧ ((0 : Int) ≤ l3 + 1 ∧ l3 + 1 < (L : Int)) ∧ (-2147483648 ≤ l3 + 2 ∧ l3 + 2 ≤ 2147483647) ∧ ((0 : Int) ≤ l3 + 2 ∧ l3 + 2 < (L : Int)) ∧ (-2147483648 ≤ l3 + 3 ∧ l3 + 3 ≤ 2147483647) ∧ ((0 : Int) ≤ l3 + 3 ∧ l3 + 3 < (L : Int)) ∧ (-2147483648 ≤ l3 + 4 ∧ l3 + 4 ≤ 2147483647) ∧ ((0 : Int) ≤ l3 + 4 ∧ l3 + 4 < (L : Int)) ∧ Calls mX8_delay [(2, 0), (0, (xs (l3 + 1).toNat).toInt), (0, (xs (l3 + 2).toNat).toInt), (0, (xs (l3 + 3).toNat).toInt), (0, (xs (l3 + 4).toNat).toInt)] S0 M (fun r9 M10 => Calls mX9_delay [(2, 275), (0, (xs (l3 + 1).toNat).toInt), (0, (xs (l3 + 2).toNat).toInt), (0, (xs (l3 + 3).toNat).toInt), (0, (xs (l3 + 4).toNat).toInt)] S0 M10 (fun r11 M12 => ((r9 = r11 → AWL L xs 1637 [(3, 0), (2, 0), (2, 275), (0, l3)] M12 Q) ∧ (¬ r9 = r11 → Q 0 M12))))) : AWL L xs 455 [(3, 0), (2, 0), (2, 275), (0, l3)] M Q := by
  refine a_aload_n (pc := 455) dL_law_455 (by decide) rfl ?_
  refine a_saload_n (pc := 456) dL_law_456 rfl ?_
  refine a_iload_n (pc := 457) dL_law_457 rfl ?_
  refine a_iconst (pc := 458) dL_law_458 (by decide) ?_
  have ho1 := h.1
  replace h := h.2
  refine a_iadd (pc := 459) dL_law_459 ho1 ?_
  have ho2 := h.1
  replace h := h.2
  refine a_sald (pc := 460) dL_law_460 ho2.1 ho2.2 ?_
  refine a_saload_n (pc := 461) dL_law_461 rfl ?_
  refine a_iload_n (pc := 462) dL_law_462 rfl ?_
  refine a_iconst (pc := 463) dL_law_463 (by decide) ?_
  have ho3 := h.1
  replace h := h.2
  refine a_iadd (pc := 464) dL_law_464 ho3 ?_
  have ho4 := h.1
  replace h := h.2
  refine a_sald (pc := 465) dL_law_465 ho4.1 ho4.2 ?_
  refine a_saload_n (pc := 466) dL_law_466 rfl ?_
  refine a_iload_n (pc := 467) dL_law_467 rfl ?_
  refine a_iconst (pc := 468) dL_law_468 (by decide) ?_
  have ho5 := h.1
  replace h := h.2
  refine a_iadd (pc := 469) dL_law_469 ho5 ?_
  have ho6 := h.1
  replace h := h.2
  refine a_sald (pc := 470) dL_law_470 ho6.1 ho6.2 ?_
  refine a_saload_n (pc := 471) dL_law_471 rfl ?_
  refine a_iload_n (pc := 472) dL_law_472 rfl ?_
  refine a_iconst (pc := 473) dL_law_473 (by decide) ?_
  have ho7 := h.1
  replace h := h.2
  refine a_iadd (pc := 474) dL_law_474 ho7 ?_
  have ho8 := h.1
  replace h := h.2
  refine a_sald (pc := 475) dL_law_475 ho8.1 ho8.2 ?_
  refine p_callV (As := [(0, (xs (l3 + 1).toNat).toInt), (0, (xs (l3 + 2).toNat).toInt), (0, (xs (l3 + 3).toNat).toInt), (0, (xs (l3 + 4).toNat).toInt)]) (st := []) (st1 := fun r => [(0, r)])  (pc := 476) dL_law_476 ml_RL_53 (by decide) s0_0 rfl (by decide) (Nat.le_of_ble_eq_true rfl) rfl (fun _ => rfl) h (fun r9 M10 h => ?_)
  refine a_aload_n (pc := 479) dL_law_479 (by decide) rfl ?_
  refine a_saload_n (pc := 480) dL_law_480 rfl ?_
  refine a_iload_n (pc := 481) dL_law_481 rfl ?_
  refine a_iconst (pc := 482) dL_law_482 (by decide) ?_
  refine a_iadd (pc := 483) dL_law_483 ho1 ?_
  refine a_sald (pc := 484) dL_law_484 ho2.1 ho2.2 ?_
  refine a_saload_n (pc := 485) dL_law_485 rfl ?_
  refine a_iload_n (pc := 486) dL_law_486 rfl ?_
  refine a_iconst (pc := 487) dL_law_487 (by decide) ?_
  refine a_iadd (pc := 488) dL_law_488 ho3 ?_
  refine a_sald (pc := 489) dL_law_489 ho4.1 ho4.2 ?_
  refine a_saload_n (pc := 490) dL_law_490 rfl ?_
  refine a_iload_n (pc := 491) dL_law_491 rfl ?_
  refine a_iconst (pc := 492) dL_law_492 (by decide) ?_
  refine a_iadd (pc := 493) dL_law_493 ho5 ?_
  refine a_sald (pc := 494) dL_law_494 ho6.1 ho6.2 ?_
  refine a_saload_n (pc := 495) dL_law_495 rfl ?_
  refine a_iload_n (pc := 496) dL_law_496 rfl ?_
  refine a_iconst (pc := 497) dL_law_497 (by decide) ?_
  refine a_iadd (pc := 498) dL_law_498 ho7 ?_
  refine a_sald (pc := 499) dL_law_499 ho8.1 ho8.2 ?_
  refine p_callV (As := [(0, (xs (l3 + 1).toNat).toInt), (0, (xs (l3 + 2).toNat).toInt), (0, (xs (l3 + 3).toNat).toInt), (0, (xs (l3 + 4).toNat).toInt)]) (st := [(0, r9)]) (st1 := fun r => [(0, r), (0, r9)])  (pc := 500) dL_law_500 ml_RL_57 (by decide) s0_275 rfl (by decide) (Nat.le_of_ble_eq_true rfl) rfl (fun _ => rfl) h (fun r11 M12 h => ?_)
  refine a_icmp_eq (tgt := 1637) (pc := 503) dL_law_503 (by decide) (fun hc13 => ?_) (fun hc13 => ?_)
  · replace h := h.1 hc13
    exact h
  · replace h := h.2 hc13
    refine a_iconst (pc := 506) dL_law_506 (by decide) ?_
    exact a_iretz (pc := 507) dL_law_507 rfl rfl (Nat.le_of_ble_eq_true rfl) (by decide) ⟨rfl, h⟩
set_option maxRecDepth 100000 in
set_option maxHeartbeats 4000000 in
theorem B_law_508 {L : Nat} {xs : Nat → Int32} (hL0 : (L : Int) ≤ 2147483647) {l3 : Int} {M : Mem} {Q : Int → Mem → Prop} (h : (-2147483648 ≤ l3 + 1 ∧ l3 + 1 ≤ 2147483647) ∧ ((0 : Int) ≤ l3 + 1 ∧ l3 + 1 < (L : Int)) ∧ Calls mX8_drop [(2, 0), (0, (xs (l3 + 1).toNat).toInt)] S0 M (fun r3 M4 => Calls mX9_drop [(2, 275), (0, (xs (l3 + 1).toNat).toInt)] S0 M4 (fun r5 M6 => ((r3 = r5 → AWL L xs 1637 [(3, 0), (2, 0), (2, 275), (0, l3)] M6 Q) ∧ (¬ r3 = r5 → Q 0 M6))))) : AWL L xs 508 [(3, 0), (2, 0), (2, 275), (0, l3)] M Q := by
  refine a_aload_n (pc := 508) dL_law_508 (by decide) rfl ?_
  refine a_saload_n (pc := 509) dL_law_509 rfl ?_
  refine a_iload_n (pc := 510) dL_law_510 rfl ?_
  refine a_iconst (pc := 511) dL_law_511 (by decide) ?_
  have ho1 := h.1
  replace h := h.2
  refine a_iadd (pc := 512) dL_law_512 ho1 ?_
  have ho2 := h.1
  replace h := h.2
  refine a_sald (pc := 513) dL_law_513 ho2.1 ho2.2 ?_
  refine p_callV (As := [(0, (xs (l3 + 1).toNat).toInt)]) (st := []) (st1 := fun r => [(0, r)])  (pc := 514) dL_law_514 ml_RL_58 (by decide) s0_0 rfl (by decide) (Nat.le_of_ble_eq_true rfl) rfl (fun _ => rfl) h (fun r3 M4 h => ?_)
  refine a_aload_n (pc := 517) dL_law_517 (by decide) rfl ?_
  refine a_saload_n (pc := 518) dL_law_518 rfl ?_
  refine a_iload_n (pc := 519) dL_law_519 rfl ?_
  refine a_iconst (pc := 520) dL_law_520 (by decide) ?_
  refine a_iadd (pc := 521) dL_law_521 ho1 ?_
  refine a_sald (pc := 522) dL_law_522 ho2.1 ho2.2 ?_
  refine p_callV (As := [(0, (xs (l3 + 1).toNat).toInt)]) (st := [(0, r3)]) (st1 := fun r => [(0, r), (0, r3)])  (pc := 523) dL_law_523 ml_RL_61 (by decide) s0_275 rfl (by decide) (Nat.le_of_ble_eq_true rfl) rfl (fun _ => rfl) h (fun r5 M6 h => ?_)
  refine a_icmp_eq (tgt := 1637) (pc := 526) dL_law_526 (by decide) (fun hc7 => ?_) (fun hc7 => ?_)
  · replace h := h.1 hc7
    exact h
  · replace h := h.2 hc7
    refine a_iconst (pc := 529) dL_law_529 (by decide) ?_
    exact a_iretz (pc := 530) dL_law_530 rfl rfl (Nat.le_of_ble_eq_true rfl) (by decide) ⟨rfl, h⟩
set_option maxRecDepth 100000 in
set_option maxHeartbeats 4000000 in
theorem B_law_531 {L : Nat} {xs : Nat → Int32} (hL0 : (L : Int) ≤ 2147483647) {l3 : Int} {M : Mem} {Q : Int → Mem → Prop} (h : (-2147483648 ≤ l3 + 1 ∧ l3 + 1 ≤ 2147483647) ∧ ((0 : Int) ≤ l3 + 1 ∧ l3 + 1 < (L : Int)) ∧ (-2147483648 ≤ l3 + 2 ∧ l3 + 2 ≤ 2147483647) ∧ ((0 : Int) ≤ l3 + 2 ∧ l3 + 2 < (L : Int)) ∧ (-2147483648 ≤ l3 + 3 ∧ l3 + 3 ≤ 2147483647) ∧ ((0 : Int) ≤ l3 + 3 ∧ l3 + 3 < (L : Int)) ∧ (-2147483648 ≤ l3 + 4 ∧ l3 + 4 ≤ 2147483647) ∧ ((0 : Int) ≤ l3 + 4 ∧ l3 + 4 < (L : Int)) ∧ Calls mX8_earliest [(2, 0), (0, (xs (l3 + 1).toNat).toInt), (0, (xs (l3 + 2).toNat).toInt), (0, (xs (l3 + 3).toNat).toInt), (0, (xs (l3 + 4).toNat).toInt)] S0 M (fun r9 M10 => Calls mX9_earliest [(2, 275), (0, (xs (l3 + 1).toNat).toInt), (0, (xs (l3 + 2).toNat).toInt), (0, (xs (l3 + 3).toNat).toInt), (0, (xs (l3 + 4).toNat).toInt)] S0 M10 (fun r11 M12 => ((r9 = r11 → AWL L xs 1637 [(3, 0), (2, 0), (2, 275), (0, l3)] M12 Q) ∧ (¬ r9 = r11 → Q 0 M12))))) : AWL L xs 531 [(3, 0), (2, 0), (2, 275), (0, l3)] M Q := by
  refine a_aload_n (pc := 531) dL_law_531 (by decide) rfl ?_
  refine a_saload_n (pc := 532) dL_law_532 rfl ?_
  refine a_iload_n (pc := 533) dL_law_533 rfl ?_
  refine a_iconst (pc := 534) dL_law_534 (by decide) ?_
  have ho1 := h.1
  replace h := h.2
  refine a_iadd (pc := 535) dL_law_535 ho1 ?_
  have ho2 := h.1
  replace h := h.2
  refine a_sald (pc := 536) dL_law_536 ho2.1 ho2.2 ?_
  refine a_saload_n (pc := 537) dL_law_537 rfl ?_
  refine a_iload_n (pc := 538) dL_law_538 rfl ?_
  refine a_iconst (pc := 539) dL_law_539 (by decide) ?_
  have ho3 := h.1
  replace h := h.2
  refine a_iadd (pc := 540) dL_law_540 ho3 ?_
  have ho4 := h.1
  replace h := h.2
  refine a_sald (pc := 541) dL_law_541 ho4.1 ho4.2 ?_
  refine a_saload_n (pc := 542) dL_law_542 rfl ?_
  refine a_iload_n (pc := 543) dL_law_543 rfl ?_
  refine a_iconst (pc := 544) dL_law_544 (by decide) ?_
  have ho5 := h.1
  replace h := h.2
  refine a_iadd (pc := 545) dL_law_545 ho5 ?_
  have ho6 := h.1
  replace h := h.2
  refine a_sald (pc := 546) dL_law_546 ho6.1 ho6.2 ?_
  refine a_saload_n (pc := 547) dL_law_547 rfl ?_
  refine a_iload_n (pc := 548) dL_law_548 rfl ?_
  refine a_iconst (pc := 549) dL_law_549 (by decide) ?_
  have ho7 := h.1
  replace h := h.2
  refine a_iadd (pc := 550) dL_law_550 ho7 ?_
  have ho8 := h.1
  replace h := h.2
  refine a_sald (pc := 551) dL_law_551 ho8.1 ho8.2 ?_
  refine p_callV (As := [(0, (xs (l3 + 1).toNat).toInt), (0, (xs (l3 + 2).toNat).toInt), (0, (xs (l3 + 3).toNat).toInt), (0, (xs (l3 + 4).toNat).toInt)]) (st := []) (st1 := fun r => [(0, r)])  (pc := 552) dL_law_552 ml_RL_62 (by decide) s0_0 rfl (by decide) (Nat.le_of_ble_eq_true rfl) rfl (fun _ => rfl) h (fun r9 M10 h => ?_)
  refine a_aload_n (pc := 555) dL_law_555 (by decide) rfl ?_
  refine a_saload_n (pc := 556) dL_law_556 rfl ?_
  refine a_iload_n (pc := 557) dL_law_557 rfl ?_
  refine a_iconst (pc := 558) dL_law_558 (by decide) ?_
  refine a_iadd (pc := 559) dL_law_559 ho1 ?_
  refine a_sald (pc := 560) dL_law_560 ho2.1 ho2.2 ?_
  refine a_saload_n (pc := 561) dL_law_561 rfl ?_
  refine a_iload_n (pc := 562) dL_law_562 rfl ?_
  refine a_iconst (pc := 563) dL_law_563 (by decide) ?_
  refine a_iadd (pc := 564) dL_law_564 ho3 ?_
  refine a_sald (pc := 565) dL_law_565 ho4.1 ho4.2 ?_
  refine a_saload_n (pc := 566) dL_law_566 rfl ?_
  refine a_iload_n (pc := 567) dL_law_567 rfl ?_
  refine a_iconst (pc := 568) dL_law_568 (by decide) ?_
  refine a_iadd (pc := 569) dL_law_569 ho5 ?_
  refine a_sald (pc := 570) dL_law_570 ho6.1 ho6.2 ?_
  refine a_saload_n (pc := 571) dL_law_571 rfl ?_
  refine a_iload_n (pc := 572) dL_law_572 rfl ?_
  refine a_iconst (pc := 573) dL_law_573 (by decide) ?_
  refine a_iadd (pc := 574) dL_law_574 ho7 ?_
  refine a_sald (pc := 575) dL_law_575 ho8.1 ho8.2 ?_
  refine p_callV (As := [(0, (xs (l3 + 1).toNat).toInt), (0, (xs (l3 + 2).toNat).toInt), (0, (xs (l3 + 3).toNat).toInt), (0, (xs (l3 + 4).toNat).toInt)]) (st := [(0, r9)]) (st1 := fun r => [(0, r), (0, r9)])  (pc := 576) dL_law_576 ml_RL_65 (by decide) s0_275 rfl (by decide) (Nat.le_of_ble_eq_true rfl) rfl (fun _ => rfl) h (fun r11 M12 h => ?_)
  refine a_icmp_eq (tgt := 1637) (pc := 579) dL_law_579 (by decide) (fun hc13 => ?_) (fun hc13 => ?_)
  · replace h := h.1 hc13
    exact h
  · replace h := h.2 hc13
    refine a_iconst (pc := 582) dL_law_582 (by decide) ?_
    exact a_iretz (pc := 583) dL_law_583 rfl rfl (Nat.le_of_ble_eq_true rfl) (by decide) ⟨rfl, h⟩
set_option maxRecDepth 100000 in
set_option maxHeartbeats 4000000 in
theorem B_law_584 {L : Nat} {xs : Nat → Int32} (hL0 : (L : Int) ≤ 2147483647) {l3 : Int} {M : Mem} {Q : Int → Mem → Prop} (h : (-2147483648 ≤ l3 + 1 ∧ l3 + 1 ≤ 2147483647) ∧ ((0 : Int) ≤ l3 + 1 ∧ l3 + 1 < (L : Int)) ∧ (-2147483648 ≤ l3 + 2 ∧ l3 + 2 ≤ 2147483647) ∧ ((0 : Int) ≤ l3 + 2 ∧ l3 + 2 < (L : Int)) ∧ (-2147483648 ≤ l3 + 3 ∧ l3 + 3 ≤ 2147483647) ∧ ((0 : Int) ≤ l3 + 3 ∧ l3 + 3 < (L : Int)) ∧ Calls mX8_worth [(2, 0), (0, (xs (l3 + 1).toNat).toInt), (0, (xs (l3 + 2).toNat).toInt), (0, (xs (l3 + 3).toNat).toInt)] S0 M (fun r7 M8 => Calls mX9_worth [(2, 275), (0, (xs (l3 + 1).toNat).toInt), (0, (xs (l3 + 2).toNat).toInt), (0, (xs (l3 + 3).toNat).toInt)] S0 M8 (fun r9 M10 => ((r7 = r9 → AWL L xs 1637 [(3, 0), (2, 0), (2, 275), (0, l3)] M10 Q) ∧ (¬ r7 = r9 → Q 0 M10))))) : AWL L xs 584 [(3, 0), (2, 0), (2, 275), (0, l3)] M Q := by
  refine a_aload_n (pc := 584) dL_law_584 (by decide) rfl ?_
  refine a_saload_n (pc := 585) dL_law_585 rfl ?_
  refine a_iload_n (pc := 586) dL_law_586 rfl ?_
  refine a_iconst (pc := 587) dL_law_587 (by decide) ?_
  have ho1 := h.1
  replace h := h.2
  refine a_iadd (pc := 588) dL_law_588 ho1 ?_
  have ho2 := h.1
  replace h := h.2
  refine a_sald (pc := 589) dL_law_589 ho2.1 ho2.2 ?_
  refine a_saload_n (pc := 590) dL_law_590 rfl ?_
  refine a_iload_n (pc := 591) dL_law_591 rfl ?_
  refine a_iconst (pc := 592) dL_law_592 (by decide) ?_
  have ho3 := h.1
  replace h := h.2
  refine a_iadd (pc := 593) dL_law_593 ho3 ?_
  have ho4 := h.1
  replace h := h.2
  refine a_sald (pc := 594) dL_law_594 ho4.1 ho4.2 ?_
  refine a_saload_n (pc := 595) dL_law_595 rfl ?_
  refine a_iload_n (pc := 596) dL_law_596 rfl ?_
  refine a_iconst (pc := 597) dL_law_597 (by decide) ?_
  have ho5 := h.1
  replace h := h.2
  refine a_iadd (pc := 598) dL_law_598 ho5 ?_
  have ho6 := h.1
  replace h := h.2
  refine a_sald (pc := 599) dL_law_599 ho6.1 ho6.2 ?_
  refine p_callV (As := [(0, (xs (l3 + 1).toNat).toInt), (0, (xs (l3 + 2).toNat).toInt), (0, (xs (l3 + 3).toNat).toInt)]) (st := []) (st1 := fun r => [(0, r)])  (pc := 600) dL_law_600 ml_RL_66 (by decide) s0_0 rfl (by decide) (Nat.le_of_ble_eq_true rfl) rfl (fun _ => rfl) h (fun r7 M8 h => ?_)
  refine a_aload_n (pc := 603) dL_law_603 (by decide) rfl ?_
  refine a_saload_n (pc := 604) dL_law_604 rfl ?_
  refine a_iload_n (pc := 605) dL_law_605 rfl ?_
  refine a_iconst (pc := 606) dL_law_606 (by decide) ?_
  refine a_iadd (pc := 607) dL_law_607 ho1 ?_
  refine a_sald (pc := 608) dL_law_608 ho2.1 ho2.2 ?_
  refine a_saload_n (pc := 609) dL_law_609 rfl ?_
  refine a_iload_n (pc := 610) dL_law_610 rfl ?_
  refine a_iconst (pc := 611) dL_law_611 (by decide) ?_
  refine a_iadd (pc := 612) dL_law_612 ho3 ?_
  refine a_sald (pc := 613) dL_law_613 ho4.1 ho4.2 ?_
  refine a_saload_n (pc := 614) dL_law_614 rfl ?_
  refine a_iload_n (pc := 615) dL_law_615 rfl ?_
  refine a_iconst (pc := 616) dL_law_616 (by decide) ?_
  refine a_iadd (pc := 617) dL_law_617 ho5 ?_
  refine a_sald (pc := 618) dL_law_618 ho6.1 ho6.2 ?_
  refine p_callV (As := [(0, (xs (l3 + 1).toNat).toInt), (0, (xs (l3 + 2).toNat).toInt), (0, (xs (l3 + 3).toNat).toInt)]) (st := [(0, r7)]) (st1 := fun r => [(0, r), (0, r7)])  (pc := 619) dL_law_619 ml_RL_69 (by decide) s0_275 rfl (by decide) (Nat.le_of_ble_eq_true rfl) rfl (fun _ => rfl) h (fun r9 M10 h => ?_)
  refine a_icmp_eq (tgt := 1637) (pc := 622) dL_law_622 (by decide) (fun hc11 => ?_) (fun hc11 => ?_)
  · replace h := h.1 hc11
    exact h
  · replace h := h.2 hc11
    refine a_iconst (pc := 625) dL_law_625 (by decide) ?_
    exact a_iretz (pc := 626) dL_law_626 rfl rfl (Nat.le_of_ble_eq_true rfl) (by decide) ⟨rfl, h⟩
set_option maxRecDepth 100000 in
set_option maxHeartbeats 4000000 in
theorem B_law_627 {L : Nat} {xs : Nat → Int32} (hL0 : (L : Int) ≤ 2147483647) {l3 : Int} {M : Mem} {Q : Int → Mem → Prop} (h : (-2147483648 ≤ l3 + 1 ∧ l3 + 1 ≤ 2147483647) ∧ ((0 : Int) ≤ l3 + 1 ∧ l3 + 1 < (L : Int)) ∧ (-2147483648 ≤ l3 + 2 ∧ l3 + 2 ≤ 2147483647) ∧ ((0 : Int) ≤ l3 + 2 ∧ l3 + 2 < (L : Int)) ∧ (-2147483648 ≤ l3 + 3 ∧ l3 + 3 ≤ 2147483647) ∧ ((0 : Int) ≤ l3 + 3 ∧ l3 + 3 < (L : Int)) ∧ (-2147483648 ≤ l3 + 4 ∧ l3 + 4 ≤ 2147483647) ∧ ((0 : Int) ≤ l3 + 4 ∧ l3 + 4 < (L : Int)) ∧ Calls mX8_legs [(2, 0), (0, (xs (l3 + 1).toNat).toInt), (0, (xs (l3 + 2).toNat).toInt), (0, (xs (l3 + 3).toNat).toInt), (0, (xs (l3 + 4).toNat).toInt)] S0 M (fun r9 M10 => Calls mX9_legs [(2, 275), (0, (xs (l3 + 1).toNat).toInt), (0, (xs (l3 + 2).toNat).toInt), (0, (xs (l3 + 3).toNat).toInt), (0, (xs (l3 + 4).toNat).toInt)] S0 M10 (fun r11 M12 => ((r9 = r11 → AWL L xs 1637 [(3, 0), (2, 0), (2, 275), (0, l3)] M12 Q) ∧ (¬ r9 = r11 → Q 0 M12))))) : AWL L xs 627 [(3, 0), (2, 0), (2, 275), (0, l3)] M Q := by
  refine a_aload_n (pc := 627) dL_law_627 (by decide) rfl ?_
  refine a_saload_n (pc := 628) dL_law_628 rfl ?_
  refine a_iload_n (pc := 629) dL_law_629 rfl ?_
  refine a_iconst (pc := 630) dL_law_630 (by decide) ?_
  have ho1 := h.1
  replace h := h.2
  refine a_iadd (pc := 631) dL_law_631 ho1 ?_
  have ho2 := h.1
  replace h := h.2
  refine a_sald (pc := 632) dL_law_632 ho2.1 ho2.2 ?_
  refine a_saload_n (pc := 633) dL_law_633 rfl ?_
  refine a_iload_n (pc := 634) dL_law_634 rfl ?_
  refine a_iconst (pc := 635) dL_law_635 (by decide) ?_
  have ho3 := h.1
  replace h := h.2
  refine a_iadd (pc := 636) dL_law_636 ho3 ?_
  have ho4 := h.1
  replace h := h.2
  refine a_sald (pc := 637) dL_law_637 ho4.1 ho4.2 ?_
  refine a_saload_n (pc := 638) dL_law_638 rfl ?_
  refine a_iload_n (pc := 639) dL_law_639 rfl ?_
  refine a_iconst (pc := 640) dL_law_640 (by decide) ?_
  have ho5 := h.1
  replace h := h.2
  refine a_iadd (pc := 641) dL_law_641 ho5 ?_
  have ho6 := h.1
  replace h := h.2
  refine a_sald (pc := 642) dL_law_642 ho6.1 ho6.2 ?_
  refine a_saload_n (pc := 643) dL_law_643 rfl ?_
  refine a_iload_n (pc := 644) dL_law_644 rfl ?_
  refine a_iconst (pc := 645) dL_law_645 (by decide) ?_
  have ho7 := h.1
  replace h := h.2
  refine a_iadd (pc := 646) dL_law_646 ho7 ?_
  have ho8 := h.1
  replace h := h.2
  refine a_sald (pc := 647) dL_law_647 ho8.1 ho8.2 ?_
  refine p_callV (As := [(0, (xs (l3 + 1).toNat).toInt), (0, (xs (l3 + 2).toNat).toInt), (0, (xs (l3 + 3).toNat).toInt), (0, (xs (l3 + 4).toNat).toInt)]) (st := []) (st1 := fun r => [(0, r)])  (pc := 648) dL_law_648 ml_RL_70 (by decide) s0_0 rfl (by decide) (Nat.le_of_ble_eq_true rfl) rfl (fun _ => rfl) h (fun r9 M10 h => ?_)
  refine a_aload_n (pc := 651) dL_law_651 (by decide) rfl ?_
  refine a_saload_n (pc := 652) dL_law_652 rfl ?_
  refine a_iload_n (pc := 653) dL_law_653 rfl ?_
  refine a_iconst (pc := 654) dL_law_654 (by decide) ?_
  refine a_iadd (pc := 655) dL_law_655 ho1 ?_
  refine a_sald (pc := 656) dL_law_656 ho2.1 ho2.2 ?_
  refine a_saload_n (pc := 657) dL_law_657 rfl ?_
  refine a_iload_n (pc := 658) dL_law_658 rfl ?_
  refine a_iconst (pc := 659) dL_law_659 (by decide) ?_
  refine a_iadd (pc := 660) dL_law_660 ho3 ?_
  refine a_sald (pc := 661) dL_law_661 ho4.1 ho4.2 ?_
  refine a_saload_n (pc := 662) dL_law_662 rfl ?_
  refine a_iload_n (pc := 663) dL_law_663 rfl ?_
  refine a_iconst (pc := 664) dL_law_664 (by decide) ?_
  refine a_iadd (pc := 665) dL_law_665 ho5 ?_
  refine a_sald (pc := 666) dL_law_666 ho6.1 ho6.2 ?_
  refine a_saload_n (pc := 667) dL_law_667 rfl ?_
  refine a_iload_n (pc := 668) dL_law_668 rfl ?_
  refine a_iconst (pc := 669) dL_law_669 (by decide) ?_
  refine a_iadd (pc := 670) dL_law_670 ho7 ?_
  refine a_sald (pc := 671) dL_law_671 ho8.1 ho8.2 ?_
  refine p_callV (As := [(0, (xs (l3 + 1).toNat).toInt), (0, (xs (l3 + 2).toNat).toInt), (0, (xs (l3 + 3).toNat).toInt), (0, (xs (l3 + 4).toNat).toInt)]) (st := [(0, r9)]) (st1 := fun r => [(0, r), (0, r9)])  (pc := 672) dL_law_672 ml_RL_73 (by decide) s0_275 rfl (by decide) (Nat.le_of_ble_eq_true rfl) rfl (fun _ => rfl) h (fun r11 M12 h => ?_)
  refine a_icmp_eq (tgt := 1637) (pc := 675) dL_law_675 (by decide) (fun hc13 => ?_) (fun hc13 => ?_)
  · replace h := h.1 hc13
    exact h
  · replace h := h.2 hc13
    refine a_iconst (pc := 678) dL_law_678 (by decide) ?_
    exact a_iretz (pc := 679) dL_law_679 rfl rfl (Nat.le_of_ble_eq_true rfl) (by decide) ⟨rfl, h⟩
set_option maxRecDepth 100000 in
set_option maxHeartbeats 4000000 in
theorem B_law_680 {L : Nat} {xs : Nat → Int32} (hL0 : (L : Int) ≤ 2147483647) {l3 : Int} {M : Mem} {Q : Int → Mem → Prop} (h : (-2147483648 ≤ l3 + 1 ∧ l3 + 1 ≤ 2147483647) ∧ ((0 : Int) ≤ l3 + 1 ∧ l3 + 1 < (L : Int)) ∧ (-2147483648 ≤ l3 + 2 ∧ l3 + 2 ≤ 2147483647) ∧ ((0 : Int) ≤ l3 + 2 ∧ l3 + 2 < (L : Int)) ∧ (-2147483648 ≤ l3 + 3 ∧ l3 + 3 ≤ 2147483647) ∧ ((0 : Int) ≤ l3 + 3 ∧ l3 + 3 < (L : Int)) ∧ (-2147483648 ≤ l3 + 4 ∧ l3 + 4 ≤ 2147483647) ∧ ((0 : Int) ≤ l3 + 4 ∧ l3 + 4 < (L : Int)) ∧ (-2147483648 ≤ l3 + 5 ∧ l3 + 5 ≤ 2147483647) ∧ ((0 : Int) ≤ l3 + 5 ∧ l3 + 5 < (L : Int)) ∧ (-2147483648 ≤ l3 + 6 ∧ l3 + 6 ≤ 2147483647) ∧ ((0 : Int) ≤ l3 + 6 ∧ l3 + 6 < (L : Int)) ∧ Calls mX8_leg [(2, 0), (0, (xs (l3 + 1).toNat).toInt), (0, (xs (l3 + 2).toNat).toInt), (0, (xs (l3 + 3).toNat).toInt), (0, (xs (l3 + 4).toNat).toInt), (0, (xs (l3 + 5).toNat).toInt), (0, (xs (l3 + 6).toNat).toInt)] S0 M (fun r13 M14 => Calls mX9_leg [(2, 275), (0, (xs (l3 + 1).toNat).toInt), (0, (xs (l3 + 2).toNat).toInt), (0, (xs (l3 + 3).toNat).toInt), (0, (xs (l3 + 4).toNat).toInt), (0, (xs (l3 + 5).toNat).toInt), (0, (xs (l3 + 6).toNat).toInt)] S0 M14 (fun r15 M16 => ((r13 = r15 → AWL L xs 1637 [(3, 0), (2, 0), (2, 275), (0, l3)] M16 Q) ∧ (¬ r13 = r15 → Q 0 M16))))) : AWL L xs 680 [(3, 0), (2, 0), (2, 275), (0, l3)] M Q := by
  refine a_aload_n (pc := 680) dL_law_680 (by decide) rfl ?_
  refine a_saload_n (pc := 681) dL_law_681 rfl ?_
  refine a_iload_n (pc := 682) dL_law_682 rfl ?_
  refine a_iconst (pc := 683) dL_law_683 (by decide) ?_
  have ho1 := h.1
  replace h := h.2
  refine a_iadd (pc := 684) dL_law_684 ho1 ?_
  have ho2 := h.1
  replace h := h.2
  refine a_sald (pc := 685) dL_law_685 ho2.1 ho2.2 ?_
  refine a_saload_n (pc := 686) dL_law_686 rfl ?_
  refine a_iload_n (pc := 687) dL_law_687 rfl ?_
  refine a_iconst (pc := 688) dL_law_688 (by decide) ?_
  have ho3 := h.1
  replace h := h.2
  refine a_iadd (pc := 689) dL_law_689 ho3 ?_
  have ho4 := h.1
  replace h := h.2
  refine a_sald (pc := 690) dL_law_690 ho4.1 ho4.2 ?_
  refine a_saload_n (pc := 691) dL_law_691 rfl ?_
  refine a_iload_n (pc := 692) dL_law_692 rfl ?_
  refine a_iconst (pc := 693) dL_law_693 (by decide) ?_
  have ho5 := h.1
  replace h := h.2
  refine a_iadd (pc := 694) dL_law_694 ho5 ?_
  have ho6 := h.1
  replace h := h.2
  refine a_sald (pc := 695) dL_law_695 ho6.1 ho6.2 ?_
  refine a_saload_n (pc := 696) dL_law_696 rfl ?_
  refine a_iload_n (pc := 697) dL_law_697 rfl ?_
  refine a_iconst (pc := 698) dL_law_698 (by decide) ?_
  have ho7 := h.1
  replace h := h.2
  refine a_iadd (pc := 699) dL_law_699 ho7 ?_
  have ho8 := h.1
  replace h := h.2
  refine a_sald (pc := 700) dL_law_700 ho8.1 ho8.2 ?_
  refine a_saload_n (pc := 701) dL_law_701 rfl ?_
  refine a_iload_n (pc := 702) dL_law_702 rfl ?_
  refine a_iconst (pc := 703) dL_law_703 (by decide) ?_
  have ho9 := h.1
  replace h := h.2
  refine a_iadd (pc := 704) dL_law_704 ho9 ?_
  have ho10 := h.1
  replace h := h.2
  refine a_sald (pc := 705) dL_law_705 ho10.1 ho10.2 ?_
  refine a_saload_n (pc := 706) dL_law_706 rfl ?_
  refine a_iload_n (pc := 707) dL_law_707 rfl ?_
  refine a_bipush (pc := 708) dL_law_708 (by decide) (by decide +kernel) ?_
  have ho11 := h.1
  replace h := h.2
  refine a_iadd (pc := 710) dL_law_710 ho11 ?_
  have ho12 := h.1
  replace h := h.2
  refine a_sald (pc := 711) dL_law_711 ho12.1 ho12.2 ?_
  refine p_callV (As := [(0, (xs (l3 + 1).toNat).toInt), (0, (xs (l3 + 2).toNat).toInt), (0, (xs (l3 + 3).toNat).toInt), (0, (xs (l3 + 4).toNat).toInt), (0, (xs (l3 + 5).toNat).toInt), (0, (xs (l3 + 6).toNat).toInt)]) (st := []) (st1 := fun r => [(0, r)])  (pc := 712) dL_law_712 ml_RL_74 (by decide) s0_0 rfl (by decide) (Nat.le_of_ble_eq_true rfl) rfl (fun _ => rfl) h (fun r13 M14 h => ?_)
  refine a_aload_n (pc := 715) dL_law_715 (by decide) rfl ?_
  refine a_saload_n (pc := 716) dL_law_716 rfl ?_
  refine a_iload_n (pc := 717) dL_law_717 rfl ?_
  refine a_iconst (pc := 718) dL_law_718 (by decide) ?_
  refine a_iadd (pc := 719) dL_law_719 ho1 ?_
  refine a_sald (pc := 720) dL_law_720 ho2.1 ho2.2 ?_
  refine a_saload_n (pc := 721) dL_law_721 rfl ?_
  refine a_iload_n (pc := 722) dL_law_722 rfl ?_
  refine a_iconst (pc := 723) dL_law_723 (by decide) ?_
  refine a_iadd (pc := 724) dL_law_724 ho3 ?_
  refine a_sald (pc := 725) dL_law_725 ho4.1 ho4.2 ?_
  refine a_saload_n (pc := 726) dL_law_726 rfl ?_
  refine a_iload_n (pc := 727) dL_law_727 rfl ?_
  refine a_iconst (pc := 728) dL_law_728 (by decide) ?_
  refine a_iadd (pc := 729) dL_law_729 ho5 ?_
  refine a_sald (pc := 730) dL_law_730 ho6.1 ho6.2 ?_
  refine a_saload_n (pc := 731) dL_law_731 rfl ?_
  refine a_iload_n (pc := 732) dL_law_732 rfl ?_
  refine a_iconst (pc := 733) dL_law_733 (by decide) ?_
  refine a_iadd (pc := 734) dL_law_734 ho7 ?_
  refine a_sald (pc := 735) dL_law_735 ho8.1 ho8.2 ?_
  refine a_saload_n (pc := 736) dL_law_736 rfl ?_
  refine a_iload_n (pc := 737) dL_law_737 rfl ?_
  refine a_iconst (pc := 738) dL_law_738 (by decide) ?_
  refine a_iadd (pc := 739) dL_law_739 ho9 ?_
  refine a_sald (pc := 740) dL_law_740 ho10.1 ho10.2 ?_
  refine a_saload_n (pc := 741) dL_law_741 rfl ?_
  refine a_iload_n (pc := 742) dL_law_742 rfl ?_
  refine a_bipush (pc := 743) dL_law_743 (by decide) (by decide +kernel) ?_
  refine a_iadd (pc := 745) dL_law_745 ho11 ?_
  refine a_sald (pc := 746) dL_law_746 ho12.1 ho12.2 ?_
  refine p_callV (As := [(0, (xs (l3 + 1).toNat).toInt), (0, (xs (l3 + 2).toNat).toInt), (0, (xs (l3 + 3).toNat).toInt), (0, (xs (l3 + 4).toNat).toInt), (0, (xs (l3 + 5).toNat).toInt), (0, (xs (l3 + 6).toNat).toInt)]) (st := [(0, r13)]) (st1 := fun r => [(0, r), (0, r13)])  (pc := 747) dL_law_747 ml_RL_78 (by decide) s0_275 rfl (by decide) (Nat.le_of_ble_eq_true rfl) rfl (fun _ => rfl) h (fun r15 M16 h => ?_)
  refine a_icmp_eq (tgt := 1637) (pc := 750) dL_law_750 (by decide) (fun hc17 => ?_) (fun hc17 => ?_)
  · replace h := h.1 hc17
    exact h
  · replace h := h.2 hc17
    refine a_iconst (pc := 753) dL_law_753 (by decide) ?_
    exact a_iretz (pc := 754) dL_law_754 rfl rfl (Nat.le_of_ble_eq_true rfl) (by decide) ⟨rfl, h⟩
set_option maxRecDepth 100000 in
set_option maxHeartbeats 4000000 in
theorem B_law_755 {L : Nat} {xs : Nat → Int32} (hL0 : (L : Int) ≤ 2147483647) {l3 : Int} {M : Mem} {Q : Int → Mem → Prop} (h : (-2147483648 ≤ l3 + 1 ∧ l3 + 1 ≤ 2147483647) ∧ ((0 : Int) ≤ l3 + 1 ∧ l3 + 1 < (L : Int)) ∧ (-2147483648 ≤ l3 + 2 ∧ l3 + 2 ≤ 2147483647) ∧ ((0 : Int) ≤ l3 + 2 ∧ l3 + 2 < (L : Int)) ∧ (-2147483648 ≤ l3 + 3 ∧ l3 + 3 ≤ 2147483647) ∧ ((0 : Int) ≤ l3 + 3 ∧ l3 + 3 < (L : Int)) ∧ (-2147483648 ≤ l3 + 4 ∧ l3 + 4 ≤ 2147483647) ∧ ((0 : Int) ≤ l3 + 4 ∧ l3 + 4 < (L : Int)) ∧ Calls mX8_fare [(2, 0), (0, (xs (l3 + 1).toNat).toInt), (0, (xs (l3 + 2).toNat).toInt), (0, (xs (l3 + 3).toNat).toInt), (0, (xs (l3 + 4).toNat).toInt)] S0 M (fun r9 M10 => Calls mX9_fare [(2, 275), (0, (xs (l3 + 1).toNat).toInt), (0, (xs (l3 + 2).toNat).toInt), (0, (xs (l3 + 3).toNat).toInt), (0, (xs (l3 + 4).toNat).toInt)] S0 M10 (fun r11 M12 => ((r9 = r11 → AWL L xs 1637 [(3, 0), (2, 0), (2, 275), (0, l3)] M12 Q) ∧ (¬ r9 = r11 → Q 0 M12))))) : AWL L xs 755 [(3, 0), (2, 0), (2, 275), (0, l3)] M Q := by
  refine a_aload_n (pc := 755) dL_law_755 (by decide) rfl ?_
  refine a_saload_n (pc := 756) dL_law_756 rfl ?_
  refine a_iload_n (pc := 757) dL_law_757 rfl ?_
  refine a_iconst (pc := 758) dL_law_758 (by decide) ?_
  have ho1 := h.1
  replace h := h.2
  refine a_iadd (pc := 759) dL_law_759 ho1 ?_
  have ho2 := h.1
  replace h := h.2
  refine a_sald (pc := 760) dL_law_760 ho2.1 ho2.2 ?_
  refine a_saload_n (pc := 761) dL_law_761 rfl ?_
  refine a_iload_n (pc := 762) dL_law_762 rfl ?_
  refine a_iconst (pc := 763) dL_law_763 (by decide) ?_
  have ho3 := h.1
  replace h := h.2
  refine a_iadd (pc := 764) dL_law_764 ho3 ?_
  have ho4 := h.1
  replace h := h.2
  refine a_sald (pc := 765) dL_law_765 ho4.1 ho4.2 ?_
  refine a_saload_n (pc := 766) dL_law_766 rfl ?_
  refine a_iload_n (pc := 767) dL_law_767 rfl ?_
  refine a_iconst (pc := 768) dL_law_768 (by decide) ?_
  have ho5 := h.1
  replace h := h.2
  refine a_iadd (pc := 769) dL_law_769 ho5 ?_
  have ho6 := h.1
  replace h := h.2
  refine a_sald (pc := 770) dL_law_770 ho6.1 ho6.2 ?_
  refine a_saload_n (pc := 771) dL_law_771 rfl ?_
  refine a_iload_n (pc := 772) dL_law_772 rfl ?_
  refine a_iconst (pc := 773) dL_law_773 (by decide) ?_
  have ho7 := h.1
  replace h := h.2
  refine a_iadd (pc := 774) dL_law_774 ho7 ?_
  have ho8 := h.1
  replace h := h.2
  refine a_sald (pc := 775) dL_law_775 ho8.1 ho8.2 ?_
  refine p_callV (As := [(0, (xs (l3 + 1).toNat).toInt), (0, (xs (l3 + 2).toNat).toInt), (0, (xs (l3 + 3).toNat).toInt), (0, (xs (l3 + 4).toNat).toInt)]) (st := []) (st1 := fun r => [(0, r)])  (pc := 776) dL_law_776 ml_RL_79 (by decide) s0_0 rfl (by decide) (Nat.le_of_ble_eq_true rfl) rfl (fun _ => rfl) h (fun r9 M10 h => ?_)
  refine a_aload_n (pc := 779) dL_law_779 (by decide) rfl ?_
  refine a_saload_n (pc := 780) dL_law_780 rfl ?_
  refine a_iload_n (pc := 781) dL_law_781 rfl ?_
  refine a_iconst (pc := 782) dL_law_782 (by decide) ?_
  refine a_iadd (pc := 783) dL_law_783 ho1 ?_
  refine a_sald (pc := 784) dL_law_784 ho2.1 ho2.2 ?_
  refine a_saload_n (pc := 785) dL_law_785 rfl ?_
  refine a_iload_n (pc := 786) dL_law_786 rfl ?_
  refine a_iconst (pc := 787) dL_law_787 (by decide) ?_
  refine a_iadd (pc := 788) dL_law_788 ho3 ?_
  refine a_sald (pc := 789) dL_law_789 ho4.1 ho4.2 ?_
  refine a_saload_n (pc := 790) dL_law_790 rfl ?_
  refine a_iload_n (pc := 791) dL_law_791 rfl ?_
  refine a_iconst (pc := 792) dL_law_792 (by decide) ?_
  refine a_iadd (pc := 793) dL_law_793 ho5 ?_
  refine a_sald (pc := 794) dL_law_794 ho6.1 ho6.2 ?_
  refine a_saload_n (pc := 795) dL_law_795 rfl ?_
  refine a_iload_n (pc := 796) dL_law_796 rfl ?_
  refine a_iconst (pc := 797) dL_law_797 (by decide) ?_
  refine a_iadd (pc := 798) dL_law_798 ho7 ?_
  refine a_sald (pc := 799) dL_law_799 ho8.1 ho8.2 ?_
  refine p_callV (As := [(0, (xs (l3 + 1).toNat).toInt), (0, (xs (l3 + 2).toNat).toInt), (0, (xs (l3 + 3).toNat).toInt), (0, (xs (l3 + 4).toNat).toInt)]) (st := [(0, r9)]) (st1 := fun r => [(0, r), (0, r9)])  (pc := 800) dL_law_800 ml_RL_82 (by decide) s0_275 rfl (by decide) (Nat.le_of_ble_eq_true rfl) rfl (fun _ => rfl) h (fun r11 M12 h => ?_)
  refine a_icmp_eq (tgt := 1637) (pc := 803) dL_law_803 (by decide) (fun hc13 => ?_) (fun hc13 => ?_)
  · replace h := h.1 hc13
    exact h
  · replace h := h.2 hc13
    refine a_iconst (pc := 806) dL_law_806 (by decide) ?_
    exact a_iretz (pc := 807) dL_law_807 rfl rfl (Nat.le_of_ble_eq_true rfl) (by decide) ⟨rfl, h⟩
set_option maxRecDepth 100000 in
set_option maxHeartbeats 4000000 in
theorem B_law_808 {L : Nat} {xs : Nat → Int32} (hL0 : (L : Int) ≤ 2147483647) {l3 : Int} {M : Mem} {Q : Int → Mem → Prop} (h : (-2147483648 ≤ l3 + 1 ∧ l3 + 1 ≤ 2147483647) ∧ ((0 : Int) ≤ l3 + 1 ∧ l3 + 1 < (L : Int)) ∧ (-2147483648 ≤ l3 + 2 ∧ l3 + 2 ≤ 2147483647) ∧ ((0 : Int) ≤ l3 + 2 ∧ l3 + 2 < (L : Int)) ∧ (-2147483648 ≤ l3 + 3 ∧ l3 + 3 ≤ 2147483647) ∧ ((0 : Int) ≤ l3 + 3 ∧ l3 + 3 < (L : Int)) ∧ (-2147483648 ≤ l3 + 4 ∧ l3 + 4 ≤ 2147483647) ∧ ((0 : Int) ≤ l3 + 4 ∧ l3 + 4 < (L : Int)) ∧ Calls mX8_waiting [(2, 0), (0, (xs (l3 + 1).toNat).toInt), (0, (xs (l3 + 2).toNat).toInt), (0, (xs (l3 + 3).toNat).toInt), (0, (xs (l3 + 4).toNat).toInt)] S0 M (fun r9 M10 => Calls mX9_waiting [(2, 275), (0, (xs (l3 + 1).toNat).toInt), (0, (xs (l3 + 2).toNat).toInt), (0, (xs (l3 + 3).toNat).toInt), (0, (xs (l3 + 4).toNat).toInt)] S0 M10 (fun r11 M12 => ((r9 = r11 → AWL L xs 1637 [(3, 0), (2, 0), (2, 275), (0, l3)] M12 Q) ∧ (¬ r9 = r11 → Q 0 M12))))) : AWL L xs 808 [(3, 0), (2, 0), (2, 275), (0, l3)] M Q := by
  refine a_aload_n (pc := 808) dL_law_808 (by decide) rfl ?_
  refine a_saload_n (pc := 809) dL_law_809 rfl ?_
  refine a_iload_n (pc := 810) dL_law_810 rfl ?_
  refine a_iconst (pc := 811) dL_law_811 (by decide) ?_
  have ho1 := h.1
  replace h := h.2
  refine a_iadd (pc := 812) dL_law_812 ho1 ?_
  have ho2 := h.1
  replace h := h.2
  refine a_sald (pc := 813) dL_law_813 ho2.1 ho2.2 ?_
  refine a_saload_n (pc := 814) dL_law_814 rfl ?_
  refine a_iload_n (pc := 815) dL_law_815 rfl ?_
  refine a_iconst (pc := 816) dL_law_816 (by decide) ?_
  have ho3 := h.1
  replace h := h.2
  refine a_iadd (pc := 817) dL_law_817 ho3 ?_
  have ho4 := h.1
  replace h := h.2
  refine a_sald (pc := 818) dL_law_818 ho4.1 ho4.2 ?_
  refine a_saload_n (pc := 819) dL_law_819 rfl ?_
  refine a_iload_n (pc := 820) dL_law_820 rfl ?_
  refine a_iconst (pc := 821) dL_law_821 (by decide) ?_
  have ho5 := h.1
  replace h := h.2
  refine a_iadd (pc := 822) dL_law_822 ho5 ?_
  have ho6 := h.1
  replace h := h.2
  refine a_sald (pc := 823) dL_law_823 ho6.1 ho6.2 ?_
  refine a_saload_n (pc := 824) dL_law_824 rfl ?_
  refine a_iload_n (pc := 825) dL_law_825 rfl ?_
  refine a_iconst (pc := 826) dL_law_826 (by decide) ?_
  have ho7 := h.1
  replace h := h.2
  refine a_iadd (pc := 827) dL_law_827 ho7 ?_
  have ho8 := h.1
  replace h := h.2
  refine a_sald (pc := 828) dL_law_828 ho8.1 ho8.2 ?_
  refine p_callV (As := [(0, (xs (l3 + 1).toNat).toInt), (0, (xs (l3 + 2).toNat).toInt), (0, (xs (l3 + 3).toNat).toInt), (0, (xs (l3 + 4).toNat).toInt)]) (st := []) (st1 := fun r => [(0, r)])  (pc := 829) dL_law_829 ml_RL_83 (by decide) s0_0 rfl (by decide) (Nat.le_of_ble_eq_true rfl) rfl (fun _ => rfl) h (fun r9 M10 h => ?_)
  refine a_aload_n (pc := 832) dL_law_832 (by decide) rfl ?_
  refine a_saload_n (pc := 833) dL_law_833 rfl ?_
  refine a_iload_n (pc := 834) dL_law_834 rfl ?_
  refine a_iconst (pc := 835) dL_law_835 (by decide) ?_
  refine a_iadd (pc := 836) dL_law_836 ho1 ?_
  refine a_sald (pc := 837) dL_law_837 ho2.1 ho2.2 ?_
  refine a_saload_n (pc := 838) dL_law_838 rfl ?_
  refine a_iload_n (pc := 839) dL_law_839 rfl ?_
  refine a_iconst (pc := 840) dL_law_840 (by decide) ?_
  refine a_iadd (pc := 841) dL_law_841 ho3 ?_
  refine a_sald (pc := 842) dL_law_842 ho4.1 ho4.2 ?_
  refine a_saload_n (pc := 843) dL_law_843 rfl ?_
  refine a_iload_n (pc := 844) dL_law_844 rfl ?_
  refine a_iconst (pc := 845) dL_law_845 (by decide) ?_
  refine a_iadd (pc := 846) dL_law_846 ho5 ?_
  refine a_sald (pc := 847) dL_law_847 ho6.1 ho6.2 ?_
  refine a_saload_n (pc := 848) dL_law_848 rfl ?_
  refine a_iload_n (pc := 849) dL_law_849 rfl ?_
  refine a_iconst (pc := 850) dL_law_850 (by decide) ?_
  refine a_iadd (pc := 851) dL_law_851 ho7 ?_
  refine a_sald (pc := 852) dL_law_852 ho8.1 ho8.2 ?_
  refine p_callV (As := [(0, (xs (l3 + 1).toNat).toInt), (0, (xs (l3 + 2).toNat).toInt), (0, (xs (l3 + 3).toNat).toInt), (0, (xs (l3 + 4).toNat).toInt)]) (st := [(0, r9)]) (st1 := fun r => [(0, r), (0, r9)])  (pc := 853) dL_law_853 ml_RL_86 (by decide) s0_275 rfl (by decide) (Nat.le_of_ble_eq_true rfl) rfl (fun _ => rfl) h (fun r11 M12 h => ?_)
  refine a_icmp_eq (tgt := 1637) (pc := 856) dL_law_856 (by decide) (fun hc13 => ?_) (fun hc13 => ?_)
  · replace h := h.1 hc13
    exact h
  · replace h := h.2 hc13
    refine a_iconst (pc := 859) dL_law_859 (by decide) ?_
    exact a_iretz (pc := 860) dL_law_860 rfl rfl (Nat.le_of_ble_eq_true rfl) (by decide) ⟨rfl, h⟩
set_option maxRecDepth 100000 in
set_option maxHeartbeats 4000000 in
theorem B_law_861 {L : Nat} {xs : Nat → Int32} (hL0 : (L : Int) ≤ 2147483647) {l3 : Int} {M : Mem} {Q : Int → Mem → Prop} (h : (-2147483648 ≤ l3 + 1 ∧ l3 + 1 ≤ 2147483647) ∧ ((0 : Int) ≤ l3 + 1 ∧ l3 + 1 < (L : Int)) ∧ (-2147483648 ≤ l3 + 2 ∧ l3 + 2 ≤ 2147483647) ∧ ((0 : Int) ≤ l3 + 2 ∧ l3 + 2 < (L : Int)) ∧ (-2147483648 ≤ l3 + 3 ∧ l3 + 3 ≤ 2147483647) ∧ ((0 : Int) ≤ l3 + 3 ∧ l3 + 3 < (L : Int)) ∧ (-2147483648 ≤ l3 + 4 ∧ l3 + 4 ≤ 2147483647) ∧ ((0 : Int) ≤ l3 + 4 ∧ l3 + 4 < (L : Int)) ∧ Calls mX8_latest [(2, 0), (0, (xs (l3 + 1).toNat).toInt), (0, (xs (l3 + 2).toNat).toInt), (0, (xs (l3 + 3).toNat).toInt), (0, (xs (l3 + 4).toNat).toInt)] S0 M (fun r9 M10 => Calls mX9_latest [(2, 275), (0, (xs (l3 + 1).toNat).toInt), (0, (xs (l3 + 2).toNat).toInt), (0, (xs (l3 + 3).toNat).toInt), (0, (xs (l3 + 4).toNat).toInt)] S0 M10 (fun r11 M12 => ((r9 = r11 → AWL L xs 1637 [(3, 0), (2, 0), (2, 275), (0, l3)] M12 Q) ∧ (¬ r9 = r11 → Q 0 M12))))) : AWL L xs 861 [(3, 0), (2, 0), (2, 275), (0, l3)] M Q := by
  refine a_aload_n (pc := 861) dL_law_861 (by decide) rfl ?_
  refine a_saload_n (pc := 862) dL_law_862 rfl ?_
  refine a_iload_n (pc := 863) dL_law_863 rfl ?_
  refine a_iconst (pc := 864) dL_law_864 (by decide) ?_
  have ho1 := h.1
  replace h := h.2
  refine a_iadd (pc := 865) dL_law_865 ho1 ?_
  have ho2 := h.1
  replace h := h.2
  refine a_sald (pc := 866) dL_law_866 ho2.1 ho2.2 ?_
  refine a_saload_n (pc := 867) dL_law_867 rfl ?_
  refine a_iload_n (pc := 868) dL_law_868 rfl ?_
  refine a_iconst (pc := 869) dL_law_869 (by decide) ?_
  have ho3 := h.1
  replace h := h.2
  refine a_iadd (pc := 870) dL_law_870 ho3 ?_
  have ho4 := h.1
  replace h := h.2
  refine a_sald (pc := 871) dL_law_871 ho4.1 ho4.2 ?_
  refine a_saload_n (pc := 872) dL_law_872 rfl ?_
  refine a_iload_n (pc := 873) dL_law_873 rfl ?_
  refine a_iconst (pc := 874) dL_law_874 (by decide) ?_
  have ho5 := h.1
  replace h := h.2
  refine a_iadd (pc := 875) dL_law_875 ho5 ?_
  have ho6 := h.1
  replace h := h.2
  refine a_sald (pc := 876) dL_law_876 ho6.1 ho6.2 ?_
  refine a_saload_n (pc := 877) dL_law_877 rfl ?_
  refine a_iload_n (pc := 878) dL_law_878 rfl ?_
  refine a_iconst (pc := 879) dL_law_879 (by decide) ?_
  have ho7 := h.1
  replace h := h.2
  refine a_iadd (pc := 880) dL_law_880 ho7 ?_
  have ho8 := h.1
  replace h := h.2
  refine a_sald (pc := 881) dL_law_881 ho8.1 ho8.2 ?_
  refine p_callV (As := [(0, (xs (l3 + 1).toNat).toInt), (0, (xs (l3 + 2).toNat).toInt), (0, (xs (l3 + 3).toNat).toInt), (0, (xs (l3 + 4).toNat).toInt)]) (st := []) (st1 := fun r => [(0, r)])  (pc := 882) dL_law_882 ml_RL_87 (by decide) s0_0 rfl (by decide) (Nat.le_of_ble_eq_true rfl) rfl (fun _ => rfl) h (fun r9 M10 h => ?_)
  refine a_aload_n (pc := 885) dL_law_885 (by decide) rfl ?_
  refine a_saload_n (pc := 886) dL_law_886 rfl ?_
  refine a_iload_n (pc := 887) dL_law_887 rfl ?_
  refine a_iconst (pc := 888) dL_law_888 (by decide) ?_
  refine a_iadd (pc := 889) dL_law_889 ho1 ?_
  refine a_sald (pc := 890) dL_law_890 ho2.1 ho2.2 ?_
  refine a_saload_n (pc := 891) dL_law_891 rfl ?_
  refine a_iload_n (pc := 892) dL_law_892 rfl ?_
  refine a_iconst (pc := 893) dL_law_893 (by decide) ?_
  refine a_iadd (pc := 894) dL_law_894 ho3 ?_
  refine a_sald (pc := 895) dL_law_895 ho4.1 ho4.2 ?_
  refine a_saload_n (pc := 896) dL_law_896 rfl ?_
  refine a_iload_n (pc := 897) dL_law_897 rfl ?_
  refine a_iconst (pc := 898) dL_law_898 (by decide) ?_
  refine a_iadd (pc := 899) dL_law_899 ho5 ?_
  refine a_sald (pc := 900) dL_law_900 ho6.1 ho6.2 ?_
  refine a_saload_n (pc := 901) dL_law_901 rfl ?_
  refine a_iload_n (pc := 902) dL_law_902 rfl ?_
  refine a_iconst (pc := 903) dL_law_903 (by decide) ?_
  refine a_iadd (pc := 904) dL_law_904 ho7 ?_
  refine a_sald (pc := 905) dL_law_905 ho8.1 ho8.2 ?_
  refine p_callV (As := [(0, (xs (l3 + 1).toNat).toInt), (0, (xs (l3 + 2).toNat).toInt), (0, (xs (l3 + 3).toNat).toInt), (0, (xs (l3 + 4).toNat).toInt)]) (st := [(0, r9)]) (st1 := fun r => [(0, r), (0, r9)])  (pc := 906) dL_law_906 ml_RL_90 (by decide) s0_275 rfl (by decide) (Nat.le_of_ble_eq_true rfl) rfl (fun _ => rfl) h (fun r11 M12 h => ?_)
  refine a_icmp_eq (tgt := 1637) (pc := 909) dL_law_909 (by decide) (fun hc13 => ?_) (fun hc13 => ?_)
  · replace h := h.1 hc13
    exact h
  · replace h := h.2 hc13
    refine a_iconst (pc := 912) dL_law_912 (by decide) ?_
    exact a_iretz (pc := 913) dL_law_913 rfl rfl (Nat.le_of_ble_eq_true rfl) (by decide) ⟨rfl, h⟩
set_option maxRecDepth 100000 in
set_option maxHeartbeats 4000000 in
theorem B_law_914 {L : Nat} {xs : Nat → Int32} (hL0 : (L : Int) ≤ 2147483647) {l3 : Int} {M : Mem} {Q : Int → Mem → Prop} (h : (-2147483648 ≤ l3 + 1 ∧ l3 + 1 ≤ 2147483647) ∧ ((0 : Int) ≤ l3 + 1 ∧ l3 + 1 < (L : Int)) ∧ (-2147483648 ≤ l3 + 2 ∧ l3 + 2 ≤ 2147483647) ∧ ((0 : Int) ≤ l3 + 2 ∧ l3 + 2 < (L : Int)) ∧ (-2147483648 ≤ l3 + 3 ∧ l3 + 3 ≤ 2147483647) ∧ ((0 : Int) ≤ l3 + 3 ∧ l3 + 3 < (L : Int)) ∧ (-2147483648 ≤ l3 + 4 ∧ l3 + 4 ≤ 2147483647) ∧ ((0 : Int) ≤ l3 + 4 ∧ l3 + 4 < (L : Int)) ∧ (-2147483648 ≤ l3 + 5 ∧ l3 + 5 ≤ 2147483647) ∧ ((0 : Int) ≤ l3 + 5 ∧ l3 + 5 < (L : Int)) ∧ (-2147483648 ≤ l3 + 6 ∧ l3 + 6 ≤ 2147483647) ∧ ((0 : Int) ≤ l3 + 6 ∧ l3 + 6 < (L : Int)) ∧ Calls mX8_profile [(2, 0), (0, (xs (l3 + 1).toNat).toInt), (0, (xs (l3 + 2).toNat).toInt), (0, (xs (l3 + 3).toNat).toInt), (0, (xs (l3 + 4).toNat).toInt), (0, (xs (l3 + 5).toNat).toInt), (0, (xs (l3 + 6).toNat).toInt)] S0 M (fun r13 M14 => Calls mX9_profile [(2, 275), (0, (xs (l3 + 1).toNat).toInt), (0, (xs (l3 + 2).toNat).toInt), (0, (xs (l3 + 3).toNat).toInt), (0, (xs (l3 + 4).toNat).toInt), (0, (xs (l3 + 5).toNat).toInt), (0, (xs (l3 + 6).toNat).toInt)] S0 M14 (fun r15 M16 => ((r13 = r15 → AWL L xs 1637 [(3, 0), (2, 0), (2, 275), (0, l3)] M16 Q) ∧ (¬ r13 = r15 → Q 0 M16))))) : AWL L xs 914 [(3, 0), (2, 0), (2, 275), (0, l3)] M Q := by
  refine a_aload_n (pc := 914) dL_law_914 (by decide) rfl ?_
  refine a_saload_n (pc := 915) dL_law_915 rfl ?_
  refine a_iload_n (pc := 916) dL_law_916 rfl ?_
  refine a_iconst (pc := 917) dL_law_917 (by decide) ?_
  have ho1 := h.1
  replace h := h.2
  refine a_iadd (pc := 918) dL_law_918 ho1 ?_
  have ho2 := h.1
  replace h := h.2
  refine a_sald (pc := 919) dL_law_919 ho2.1 ho2.2 ?_
  refine a_saload_n (pc := 920) dL_law_920 rfl ?_
  refine a_iload_n (pc := 921) dL_law_921 rfl ?_
  refine a_iconst (pc := 922) dL_law_922 (by decide) ?_
  have ho3 := h.1
  replace h := h.2
  refine a_iadd (pc := 923) dL_law_923 ho3 ?_
  have ho4 := h.1
  replace h := h.2
  refine a_sald (pc := 924) dL_law_924 ho4.1 ho4.2 ?_
  refine a_saload_n (pc := 925) dL_law_925 rfl ?_
  refine a_iload_n (pc := 926) dL_law_926 rfl ?_
  refine a_iconst (pc := 927) dL_law_927 (by decide) ?_
  have ho5 := h.1
  replace h := h.2
  refine a_iadd (pc := 928) dL_law_928 ho5 ?_
  have ho6 := h.1
  replace h := h.2
  refine a_sald (pc := 929) dL_law_929 ho6.1 ho6.2 ?_
  refine a_saload_n (pc := 930) dL_law_930 rfl ?_
  refine a_iload_n (pc := 931) dL_law_931 rfl ?_
  refine a_iconst (pc := 932) dL_law_932 (by decide) ?_
  have ho7 := h.1
  replace h := h.2
  refine a_iadd (pc := 933) dL_law_933 ho7 ?_
  have ho8 := h.1
  replace h := h.2
  refine a_sald (pc := 934) dL_law_934 ho8.1 ho8.2 ?_
  refine a_saload_n (pc := 935) dL_law_935 rfl ?_
  refine a_iload_n (pc := 936) dL_law_936 rfl ?_
  refine a_iconst (pc := 937) dL_law_937 (by decide) ?_
  have ho9 := h.1
  replace h := h.2
  refine a_iadd (pc := 938) dL_law_938 ho9 ?_
  have ho10 := h.1
  replace h := h.2
  refine a_sald (pc := 939) dL_law_939 ho10.1 ho10.2 ?_
  refine a_saload_n (pc := 940) dL_law_940 rfl ?_
  refine a_iload_n (pc := 941) dL_law_941 rfl ?_
  refine a_bipush (pc := 942) dL_law_942 (by decide) (by decide +kernel) ?_
  have ho11 := h.1
  replace h := h.2
  refine a_iadd (pc := 944) dL_law_944 ho11 ?_
  have ho12 := h.1
  replace h := h.2
  refine a_sald (pc := 945) dL_law_945 ho12.1 ho12.2 ?_
  refine p_callV (As := [(0, (xs (l3 + 1).toNat).toInt), (0, (xs (l3 + 2).toNat).toInt), (0, (xs (l3 + 3).toNat).toInt), (0, (xs (l3 + 4).toNat).toInt), (0, (xs (l3 + 5).toNat).toInt), (0, (xs (l3 + 6).toNat).toInt)]) (st := []) (st1 := fun r => [(0, r)])  (pc := 946) dL_law_946 ml_RL_91 (by decide) s0_0 rfl (by decide) (Nat.le_of_ble_eq_true rfl) rfl (fun _ => rfl) h (fun r13 M14 h => ?_)
  refine a_aload_n (pc := 949) dL_law_949 (by decide) rfl ?_
  refine a_saload_n (pc := 950) dL_law_950 rfl ?_
  refine a_iload_n (pc := 951) dL_law_951 rfl ?_
  refine a_iconst (pc := 952) dL_law_952 (by decide) ?_
  refine a_iadd (pc := 953) dL_law_953 ho1 ?_
  refine a_sald (pc := 954) dL_law_954 ho2.1 ho2.2 ?_
  refine a_saload_n (pc := 955) dL_law_955 rfl ?_
  refine a_iload_n (pc := 956) dL_law_956 rfl ?_
  refine a_iconst (pc := 957) dL_law_957 (by decide) ?_
  refine a_iadd (pc := 958) dL_law_958 ho3 ?_
  refine a_sald (pc := 959) dL_law_959 ho4.1 ho4.2 ?_
  refine a_saload_n (pc := 960) dL_law_960 rfl ?_
  refine a_iload_n (pc := 961) dL_law_961 rfl ?_
  refine a_iconst (pc := 962) dL_law_962 (by decide) ?_
  refine a_iadd (pc := 963) dL_law_963 ho5 ?_
  refine a_sald (pc := 964) dL_law_964 ho6.1 ho6.2 ?_
  refine a_saload_n (pc := 965) dL_law_965 rfl ?_
  refine a_iload_n (pc := 966) dL_law_966 rfl ?_
  refine a_iconst (pc := 967) dL_law_967 (by decide) ?_
  refine a_iadd (pc := 968) dL_law_968 ho7 ?_
  refine a_sald (pc := 969) dL_law_969 ho8.1 ho8.2 ?_
  refine a_saload_n (pc := 970) dL_law_970 rfl ?_
  refine a_iload_n (pc := 971) dL_law_971 rfl ?_
  refine a_iconst (pc := 972) dL_law_972 (by decide) ?_
  refine a_iadd (pc := 973) dL_law_973 ho9 ?_
  refine a_sald (pc := 974) dL_law_974 ho10.1 ho10.2 ?_
  refine a_saload_n (pc := 975) dL_law_975 rfl ?_
  refine a_iload_n (pc := 976) dL_law_976 rfl ?_
  refine a_bipush (pc := 977) dL_law_977 (by decide) (by decide +kernel) ?_
  refine a_iadd (pc := 979) dL_law_979 ho11 ?_
  refine a_sald (pc := 980) dL_law_980 ho12.1 ho12.2 ?_
  refine p_callV (As := [(0, (xs (l3 + 1).toNat).toInt), (0, (xs (l3 + 2).toNat).toInt), (0, (xs (l3 + 3).toNat).toInt), (0, (xs (l3 + 4).toNat).toInt), (0, (xs (l3 + 5).toNat).toInt), (0, (xs (l3 + 6).toNat).toInt)]) (st := [(0, r13)]) (st1 := fun r => [(0, r), (0, r13)])  (pc := 981) dL_law_981 ml_RL_94 (by decide) s0_275 rfl (by decide) (Nat.le_of_ble_eq_true rfl) rfl (fun _ => rfl) h (fun r15 M16 h => ?_)
  refine a_icmp_eq (tgt := 1637) (pc := 984) dL_law_984 (by decide) (fun hc17 => ?_) (fun hc17 => ?_)
  · replace h := h.1 hc17
    exact h
  · replace h := h.2 hc17
    refine a_iconst (pc := 987) dL_law_987 (by decide) ?_
    exact a_iretz (pc := 988) dL_law_988 rfl rfl (Nat.le_of_ble_eq_true rfl) (by decide) ⟨rfl, h⟩
set_option maxRecDepth 100000 in
set_option maxHeartbeats 4000000 in
theorem B_law_989 {L : Nat} {xs : Nat → Int32} (hL0 : (L : Int) ≤ 2147483647) {l3 : Int} {M : Mem} {Q : Int → Mem → Prop} (h : (-2147483648 ≤ l3 + 1 ∧ l3 + 1 ≤ 2147483647) ∧ ((0 : Int) ≤ l3 + 1 ∧ l3 + 1 < (L : Int)) ∧ (-2147483648 ≤ l3 + 2 ∧ l3 + 2 ≤ 2147483647) ∧ ((0 : Int) ≤ l3 + 2 ∧ l3 + 2 < (L : Int)) ∧ (-2147483648 ≤ l3 + 3 ∧ l3 + 3 ≤ 2147483647) ∧ ((0 : Int) ≤ l3 + 3 ∧ l3 + 3 < (L : Int)) ∧ (-2147483648 ≤ l3 + 4 ∧ l3 + 4 ≤ 2147483647) ∧ ((0 : Int) ≤ l3 + 4 ∧ l3 + 4 < (L : Int)) ∧ Calls mX8_reached [(2, 0), (0, (xs (l3 + 1).toNat).toInt), (0, (xs (l3 + 2).toNat).toInt), (0, (xs (l3 + 3).toNat).toInt), (0, (xs (l3 + 4).toNat).toInt)] S0 M (fun r9 M10 => Calls mX9_reached [(2, 275), (0, (xs (l3 + 1).toNat).toInt), (0, (xs (l3 + 2).toNat).toInt), (0, (xs (l3 + 3).toNat).toInt), (0, (xs (l3 + 4).toNat).toInt)] S0 M10 (fun r11 M12 => ((r9 = r11 → AWL L xs 1637 [(3, 0), (2, 0), (2, 275), (0, l3)] M12 Q) ∧ (¬ r9 = r11 → Q 0 M12))))) : AWL L xs 989 [(3, 0), (2, 0), (2, 275), (0, l3)] M Q := by
  refine a_aload_n (pc := 989) dL_law_989 (by decide) rfl ?_
  refine a_saload_n (pc := 990) dL_law_990 rfl ?_
  refine a_iload_n (pc := 991) dL_law_991 rfl ?_
  refine a_iconst (pc := 992) dL_law_992 (by decide) ?_
  have ho1 := h.1
  replace h := h.2
  refine a_iadd (pc := 993) dL_law_993 ho1 ?_
  have ho2 := h.1
  replace h := h.2
  refine a_sald (pc := 994) dL_law_994 ho2.1 ho2.2 ?_
  refine a_saload_n (pc := 995) dL_law_995 rfl ?_
  refine a_iload_n (pc := 996) dL_law_996 rfl ?_
  refine a_iconst (pc := 997) dL_law_997 (by decide) ?_
  have ho3 := h.1
  replace h := h.2
  refine a_iadd (pc := 998) dL_law_998 ho3 ?_
  have ho4 := h.1
  replace h := h.2
  refine a_sald (pc := 999) dL_law_999 ho4.1 ho4.2 ?_
  refine a_saload_n (pc := 1000) dL_law_1000 rfl ?_
  refine a_iload_n (pc := 1001) dL_law_1001 rfl ?_
  refine a_iconst (pc := 1002) dL_law_1002 (by decide) ?_
  have ho5 := h.1
  replace h := h.2
  refine a_iadd (pc := 1003) dL_law_1003 ho5 ?_
  have ho6 := h.1
  replace h := h.2
  refine a_sald (pc := 1004) dL_law_1004 ho6.1 ho6.2 ?_
  refine a_saload_n (pc := 1005) dL_law_1005 rfl ?_
  refine a_iload_n (pc := 1006) dL_law_1006 rfl ?_
  refine a_iconst (pc := 1007) dL_law_1007 (by decide) ?_
  have ho7 := h.1
  replace h := h.2
  refine a_iadd (pc := 1008) dL_law_1008 ho7 ?_
  have ho8 := h.1
  replace h := h.2
  refine a_sald (pc := 1009) dL_law_1009 ho8.1 ho8.2 ?_
  refine p_callV (As := [(0, (xs (l3 + 1).toNat).toInt), (0, (xs (l3 + 2).toNat).toInt), (0, (xs (l3 + 3).toNat).toInt), (0, (xs (l3 + 4).toNat).toInt)]) (st := []) (st1 := fun r => [(0, r)])  (pc := 1010) dL_law_1010 ml_RL_95 (by decide) s0_0 rfl (by decide) (Nat.le_of_ble_eq_true rfl) rfl (fun _ => rfl) h (fun r9 M10 h => ?_)
  refine a_aload_n (pc := 1013) dL_law_1013 (by decide) rfl ?_
  refine a_saload_n (pc := 1014) dL_law_1014 rfl ?_
  refine a_iload_n (pc := 1015) dL_law_1015 rfl ?_
  refine a_iconst (pc := 1016) dL_law_1016 (by decide) ?_
  refine a_iadd (pc := 1017) dL_law_1017 ho1 ?_
  refine a_sald (pc := 1018) dL_law_1018 ho2.1 ho2.2 ?_
  refine a_saload_n (pc := 1019) dL_law_1019 rfl ?_
  refine a_iload_n (pc := 1020) dL_law_1020 rfl ?_
  refine a_iconst (pc := 1021) dL_law_1021 (by decide) ?_
  refine a_iadd (pc := 1022) dL_law_1022 ho3 ?_
  refine a_sald (pc := 1023) dL_law_1023 ho4.1 ho4.2 ?_
  refine a_saload_n (pc := 1024) dL_law_1024 rfl ?_
  refine a_iload_n (pc := 1025) dL_law_1025 rfl ?_
  refine a_iconst (pc := 1026) dL_law_1026 (by decide) ?_
  refine a_iadd (pc := 1027) dL_law_1027 ho5 ?_
  refine a_sald (pc := 1028) dL_law_1028 ho6.1 ho6.2 ?_
  refine a_saload_n (pc := 1029) dL_law_1029 rfl ?_
  refine a_iload_n (pc := 1030) dL_law_1030 rfl ?_
  refine a_iconst (pc := 1031) dL_law_1031 (by decide) ?_
  refine a_iadd (pc := 1032) dL_law_1032 ho7 ?_
  refine a_sald (pc := 1033) dL_law_1033 ho8.1 ho8.2 ?_
  refine p_callV (As := [(0, (xs (l3 + 1).toNat).toInt), (0, (xs (l3 + 2).toNat).toInt), (0, (xs (l3 + 3).toNat).toInt), (0, (xs (l3 + 4).toNat).toInt)]) (st := [(0, r9)]) (st1 := fun r => [(0, r), (0, r9)])  (pc := 1034) dL_law_1034 ml_RL_98 (by decide) s0_275 rfl (by decide) (Nat.le_of_ble_eq_true rfl) rfl (fun _ => rfl) h (fun r11 M12 h => ?_)
  refine a_icmp_eq (tgt := 1637) (pc := 1037) dL_law_1037 (by decide) (fun hc13 => ?_) (fun hc13 => ?_)
  · replace h := h.1 hc13
    exact h
  · replace h := h.2 hc13
    refine a_iconst (pc := 1040) dL_law_1040 (by decide) ?_
    exact a_iretz (pc := 1041) dL_law_1041 rfl rfl (Nat.le_of_ble_eq_true rfl) (by decide) ⟨rfl, h⟩
set_option maxRecDepth 100000 in
set_option maxHeartbeats 4000000 in
theorem B_law_1042 {L : Nat} {xs : Nat → Int32} (hL0 : (L : Int) ≤ 2147483647) {l3 : Int} {M : Mem} {Q : Int → Mem → Prop} (h : (-2147483648 ≤ l3 + 1 ∧ l3 + 1 ≤ 2147483647) ∧ ((0 : Int) ≤ l3 + 1 ∧ l3 + 1 < (L : Int)) ∧ (-2147483648 ≤ l3 + 2 ∧ l3 + 2 ≤ 2147483647) ∧ ((0 : Int) ≤ l3 + 2 ∧ l3 + 2 < (L : Int)) ∧ (-2147483648 ≤ l3 + 3 ∧ l3 + 3 ≤ 2147483647) ∧ ((0 : Int) ≤ l3 + 3 ∧ l3 + 3 < (L : Int)) ∧ (-2147483648 ≤ l3 + 4 ∧ l3 + 4 ≤ 2147483647) ∧ ((0 : Int) ≤ l3 + 4 ∧ l3 + 4 < (L : Int)) ∧ (-2147483648 ≤ l3 + 5 ∧ l3 + 5 ≤ 2147483647) ∧ ((0 : Int) ≤ l3 + 5 ∧ l3 + 5 < (L : Int)) ∧ Calls mX8_worst [(2, 0), (0, (xs (l3 + 1).toNat).toInt), (0, (xs (l3 + 2).toNat).toInt), (0, (xs (l3 + 3).toNat).toInt), (0, (xs (l3 + 4).toNat).toInt), (0, (xs (l3 + 5).toNat).toInt)] S0 M (fun r11 M12 => Calls mX9_worst [(2, 275), (0, (xs (l3 + 1).toNat).toInt), (0, (xs (l3 + 2).toNat).toInt), (0, (xs (l3 + 3).toNat).toInt), (0, (xs (l3 + 4).toNat).toInt), (0, (xs (l3 + 5).toNat).toInt)] S0 M12 (fun r13 M14 => ((r11 = r13 → AWL L xs 1637 [(3, 0), (2, 0), (2, 275), (0, l3)] M14 Q) ∧ (¬ r11 = r13 → Q 0 M14))))) : AWL L xs 1042 [(3, 0), (2, 0), (2, 275), (0, l3)] M Q := by
  refine a_aload_n (pc := 1042) dL_law_1042 (by decide) rfl ?_
  refine a_saload_n (pc := 1043) dL_law_1043 rfl ?_
  refine a_iload_n (pc := 1044) dL_law_1044 rfl ?_
  refine a_iconst (pc := 1045) dL_law_1045 (by decide) ?_
  have ho1 := h.1
  replace h := h.2
  refine a_iadd (pc := 1046) dL_law_1046 ho1 ?_
  have ho2 := h.1
  replace h := h.2
  refine a_sald (pc := 1047) dL_law_1047 ho2.1 ho2.2 ?_
  refine a_saload_n (pc := 1048) dL_law_1048 rfl ?_
  refine a_iload_n (pc := 1049) dL_law_1049 rfl ?_
  refine a_iconst (pc := 1050) dL_law_1050 (by decide) ?_
  have ho3 := h.1
  replace h := h.2
  refine a_iadd (pc := 1051) dL_law_1051 ho3 ?_
  have ho4 := h.1
  replace h := h.2
  refine a_sald (pc := 1052) dL_law_1052 ho4.1 ho4.2 ?_
  refine a_saload_n (pc := 1053) dL_law_1053 rfl ?_
  refine a_iload_n (pc := 1054) dL_law_1054 rfl ?_
  refine a_iconst (pc := 1055) dL_law_1055 (by decide) ?_
  have ho5 := h.1
  replace h := h.2
  refine a_iadd (pc := 1056) dL_law_1056 ho5 ?_
  have ho6 := h.1
  replace h := h.2
  refine a_sald (pc := 1057) dL_law_1057 ho6.1 ho6.2 ?_
  refine a_saload_n (pc := 1058) dL_law_1058 rfl ?_
  refine a_iload_n (pc := 1059) dL_law_1059 rfl ?_
  refine a_iconst (pc := 1060) dL_law_1060 (by decide) ?_
  have ho7 := h.1
  replace h := h.2
  refine a_iadd (pc := 1061) dL_law_1061 ho7 ?_
  have ho8 := h.1
  replace h := h.2
  refine a_sald (pc := 1062) dL_law_1062 ho8.1 ho8.2 ?_
  refine a_saload_n (pc := 1063) dL_law_1063 rfl ?_
  refine a_iload_n (pc := 1064) dL_law_1064 rfl ?_
  refine a_iconst (pc := 1065) dL_law_1065 (by decide) ?_
  have ho9 := h.1
  replace h := h.2
  refine a_iadd (pc := 1066) dL_law_1066 ho9 ?_
  have ho10 := h.1
  replace h := h.2
  refine a_sald (pc := 1067) dL_law_1067 ho10.1 ho10.2 ?_
  refine p_callV (As := [(0, (xs (l3 + 1).toNat).toInt), (0, (xs (l3 + 2).toNat).toInt), (0, (xs (l3 + 3).toNat).toInt), (0, (xs (l3 + 4).toNat).toInt), (0, (xs (l3 + 5).toNat).toInt)]) (st := []) (st1 := fun r => [(0, r)])  (pc := 1068) dL_law_1068 ml_RL_99 (by decide) s0_0 rfl (by decide) (Nat.le_of_ble_eq_true rfl) rfl (fun _ => rfl) h (fun r11 M12 h => ?_)
  refine a_aload_n (pc := 1071) dL_law_1071 (by decide) rfl ?_
  refine a_saload_n (pc := 1072) dL_law_1072 rfl ?_
  refine a_iload_n (pc := 1073) dL_law_1073 rfl ?_
  refine a_iconst (pc := 1074) dL_law_1074 (by decide) ?_
  refine a_iadd (pc := 1075) dL_law_1075 ho1 ?_
  refine a_sald (pc := 1076) dL_law_1076 ho2.1 ho2.2 ?_
  refine a_saload_n (pc := 1077) dL_law_1077 rfl ?_
  refine a_iload_n (pc := 1078) dL_law_1078 rfl ?_
  refine a_iconst (pc := 1079) dL_law_1079 (by decide) ?_
  refine a_iadd (pc := 1080) dL_law_1080 ho3 ?_
  refine a_sald (pc := 1081) dL_law_1081 ho4.1 ho4.2 ?_
  refine a_saload_n (pc := 1082) dL_law_1082 rfl ?_
  refine a_iload_n (pc := 1083) dL_law_1083 rfl ?_
  refine a_iconst (pc := 1084) dL_law_1084 (by decide) ?_
  refine a_iadd (pc := 1085) dL_law_1085 ho5 ?_
  refine a_sald (pc := 1086) dL_law_1086 ho6.1 ho6.2 ?_
  refine a_saload_n (pc := 1087) dL_law_1087 rfl ?_
  refine a_iload_n (pc := 1088) dL_law_1088 rfl ?_
  refine a_iconst (pc := 1089) dL_law_1089 (by decide) ?_
  refine a_iadd (pc := 1090) dL_law_1090 ho7 ?_
  refine a_sald (pc := 1091) dL_law_1091 ho8.1 ho8.2 ?_
  refine a_saload_n (pc := 1092) dL_law_1092 rfl ?_
  refine a_iload_n (pc := 1093) dL_law_1093 rfl ?_
  refine a_iconst (pc := 1094) dL_law_1094 (by decide) ?_
  refine a_iadd (pc := 1095) dL_law_1095 ho9 ?_
  refine a_sald (pc := 1096) dL_law_1096 ho10.1 ho10.2 ?_
  refine p_callV (As := [(0, (xs (l3 + 1).toNat).toInt), (0, (xs (l3 + 2).toNat).toInt), (0, (xs (l3 + 3).toNat).toInt), (0, (xs (l3 + 4).toNat).toInt), (0, (xs (l3 + 5).toNat).toInt)]) (st := [(0, r11)]) (st1 := fun r => [(0, r), (0, r11)])  (pc := 1097) dL_law_1097 ml_RL_103 (by decide) s0_275 rfl (by decide) (Nat.le_of_ble_eq_true rfl) rfl (fun _ => rfl) h (fun r13 M14 h => ?_)
  refine a_icmp_eq (tgt := 1637) (pc := 1100) dL_law_1100 (by decide) (fun hc15 => ?_) (fun hc15 => ?_)
  · replace h := h.1 hc15
    exact h
  · replace h := h.2 hc15
    refine a_iconst (pc := 1103) dL_law_1103 (by decide) ?_
    exact a_iretz (pc := 1104) dL_law_1104 rfl rfl (Nat.le_of_ble_eq_true rfl) (by decide) ⟨rfl, h⟩
set_option maxRecDepth 100000 in
set_option maxHeartbeats 4000000 in
theorem B_law_1105 {L : Nat} {xs : Nat → Int32} (hL0 : (L : Int) ≤ 2147483647) {l3 : Int} {M : Mem} {Q : Int → Mem → Prop} (h : (-2147483648 ≤ l3 + 1 ∧ l3 + 1 ≤ 2147483647) ∧ ((0 : Int) ≤ l3 + 1 ∧ l3 + 1 < (L : Int)) ∧ (-2147483648 ≤ l3 + 2 ∧ l3 + 2 ≤ 2147483647) ∧ ((0 : Int) ≤ l3 + 2 ∧ l3 + 2 < (L : Int)) ∧ (-2147483648 ≤ l3 + 3 ∧ l3 + 3 ≤ 2147483647) ∧ ((0 : Int) ≤ l3 + 3 ∧ l3 + 3 < (L : Int)) ∧ (-2147483648 ≤ l3 + 4 ∧ l3 + 4 ≤ 2147483647) ∧ ((0 : Int) ≤ l3 + 4 ∧ l3 + 4 < (L : Int)) ∧ (-2147483648 ≤ l3 + 5 ∧ l3 + 5 ≤ 2147483647) ∧ ((0 : Int) ≤ l3 + 5 ∧ l3 + 5 < (L : Int)) ∧ Calls mX8_cut [(2, 0), (0, (xs (l3 + 1).toNat).toInt), (0, (xs (l3 + 2).toNat).toInt), (0, (xs (l3 + 3).toNat).toInt), (0, (xs (l3 + 4).toNat).toInt), (0, (xs (l3 + 5).toNat).toInt)] S0 M (fun r11 M12 => Calls mX9_cut [(2, 275), (0, (xs (l3 + 1).toNat).toInt), (0, (xs (l3 + 2).toNat).toInt), (0, (xs (l3 + 3).toNat).toInt), (0, (xs (l3 + 4).toNat).toInt), (0, (xs (l3 + 5).toNat).toInt)] S0 M12 (fun r13 M14 => ((r11 = r13 → AWL L xs 1637 [(3, 0), (2, 0), (2, 275), (0, l3)] M14 Q) ∧ (¬ r11 = r13 → Q 0 M14))))) : AWL L xs 1105 [(3, 0), (2, 0), (2, 275), (0, l3)] M Q := by
  refine a_aload_n (pc := 1105) dL_law_1105 (by decide) rfl ?_
  refine a_saload_n (pc := 1106) dL_law_1106 rfl ?_
  refine a_iload_n (pc := 1107) dL_law_1107 rfl ?_
  refine a_iconst (pc := 1108) dL_law_1108 (by decide) ?_
  have ho1 := h.1
  replace h := h.2
  refine a_iadd (pc := 1109) dL_law_1109 ho1 ?_
  have ho2 := h.1
  replace h := h.2
  refine a_sald (pc := 1110) dL_law_1110 ho2.1 ho2.2 ?_
  refine a_saload_n (pc := 1111) dL_law_1111 rfl ?_
  refine a_iload_n (pc := 1112) dL_law_1112 rfl ?_
  refine a_iconst (pc := 1113) dL_law_1113 (by decide) ?_
  have ho3 := h.1
  replace h := h.2
  refine a_iadd (pc := 1114) dL_law_1114 ho3 ?_
  have ho4 := h.1
  replace h := h.2
  refine a_sald (pc := 1115) dL_law_1115 ho4.1 ho4.2 ?_
  refine a_saload_n (pc := 1116) dL_law_1116 rfl ?_
  refine a_iload_n (pc := 1117) dL_law_1117 rfl ?_
  refine a_iconst (pc := 1118) dL_law_1118 (by decide) ?_
  have ho5 := h.1
  replace h := h.2
  refine a_iadd (pc := 1119) dL_law_1119 ho5 ?_
  have ho6 := h.1
  replace h := h.2
  refine a_sald (pc := 1120) dL_law_1120 ho6.1 ho6.2 ?_
  refine a_saload_n (pc := 1121) dL_law_1121 rfl ?_
  refine a_iload_n (pc := 1122) dL_law_1122 rfl ?_
  refine a_iconst (pc := 1123) dL_law_1123 (by decide) ?_
  have ho7 := h.1
  replace h := h.2
  refine a_iadd (pc := 1124) dL_law_1124 ho7 ?_
  have ho8 := h.1
  replace h := h.2
  refine a_sald (pc := 1125) dL_law_1125 ho8.1 ho8.2 ?_
  refine a_saload_n (pc := 1126) dL_law_1126 rfl ?_
  refine a_iload_n (pc := 1127) dL_law_1127 rfl ?_
  refine a_iconst (pc := 1128) dL_law_1128 (by decide) ?_
  have ho9 := h.1
  replace h := h.2
  refine a_iadd (pc := 1129) dL_law_1129 ho9 ?_
  have ho10 := h.1
  replace h := h.2
  refine a_sald (pc := 1130) dL_law_1130 ho10.1 ho10.2 ?_
  refine p_callV (As := [(0, (xs (l3 + 1).toNat).toInt), (0, (xs (l3 + 2).toNat).toInt), (0, (xs (l3 + 3).toNat).toInt), (0, (xs (l3 + 4).toNat).toInt), (0, (xs (l3 + 5).toNat).toInt)]) (st := []) (st1 := fun r => [(0, r)])  (pc := 1131) dL_law_1131 ml_RL_104 (by decide) s0_0 rfl (by decide) (Nat.le_of_ble_eq_true rfl) rfl (fun _ => rfl) h (fun r11 M12 h => ?_)
  refine a_aload_n (pc := 1134) dL_law_1134 (by decide) rfl ?_
  refine a_saload_n (pc := 1135) dL_law_1135 rfl ?_
  refine a_iload_n (pc := 1136) dL_law_1136 rfl ?_
  refine a_iconst (pc := 1137) dL_law_1137 (by decide) ?_
  refine a_iadd (pc := 1138) dL_law_1138 ho1 ?_
  refine a_sald (pc := 1139) dL_law_1139 ho2.1 ho2.2 ?_
  refine a_saload_n (pc := 1140) dL_law_1140 rfl ?_
  refine a_iload_n (pc := 1141) dL_law_1141 rfl ?_
  refine a_iconst (pc := 1142) dL_law_1142 (by decide) ?_
  refine a_iadd (pc := 1143) dL_law_1143 ho3 ?_
  refine a_sald (pc := 1144) dL_law_1144 ho4.1 ho4.2 ?_
  refine a_saload_n (pc := 1145) dL_law_1145 rfl ?_
  refine a_iload_n (pc := 1146) dL_law_1146 rfl ?_
  refine a_iconst (pc := 1147) dL_law_1147 (by decide) ?_
  refine a_iadd (pc := 1148) dL_law_1148 ho5 ?_
  refine a_sald (pc := 1149) dL_law_1149 ho6.1 ho6.2 ?_
  refine a_saload_n (pc := 1150) dL_law_1150 rfl ?_
  refine a_iload_n (pc := 1151) dL_law_1151 rfl ?_
  refine a_iconst (pc := 1152) dL_law_1152 (by decide) ?_
  refine a_iadd (pc := 1153) dL_law_1153 ho7 ?_
  refine a_sald (pc := 1154) dL_law_1154 ho8.1 ho8.2 ?_
  refine a_saload_n (pc := 1155) dL_law_1155 rfl ?_
  refine a_iload_n (pc := 1156) dL_law_1156 rfl ?_
  refine a_iconst (pc := 1157) dL_law_1157 (by decide) ?_
  refine a_iadd (pc := 1158) dL_law_1158 ho9 ?_
  refine a_sald (pc := 1159) dL_law_1159 ho10.1 ho10.2 ?_
  refine p_callV (As := [(0, (xs (l3 + 1).toNat).toInt), (0, (xs (l3 + 2).toNat).toInt), (0, (xs (l3 + 3).toNat).toInt), (0, (xs (l3 + 4).toNat).toInt), (0, (xs (l3 + 5).toNat).toInt)]) (st := [(0, r11)]) (st1 := fun r => [(0, r), (0, r11)])  (pc := 1160) dL_law_1160 ml_RL_107 (by decide) s0_275 rfl (by decide) (Nat.le_of_ble_eq_true rfl) rfl (fun _ => rfl) h (fun r13 M14 h => ?_)
  refine a_icmp_eq (tgt := 1637) (pc := 1163) dL_law_1163 (by decide) (fun hc15 => ?_) (fun hc15 => ?_)
  · replace h := h.1 hc15
    exact h
  · replace h := h.2 hc15
    refine a_iconst (pc := 1166) dL_law_1166 (by decide) ?_
    exact a_iretz (pc := 1167) dL_law_1167 rfl rfl (Nat.le_of_ble_eq_true rfl) (by decide) ⟨rfl, h⟩
set_option maxRecDepth 100000 in
set_option maxHeartbeats 4000000 in
theorem B_law_1168 {L : Nat} {xs : Nat → Int32} (hL0 : (L : Int) ≤ 2147483647) {l3 : Int} {M : Mem} {Q : Int → Mem → Prop} (h : (-2147483648 ≤ l3 + 1 ∧ l3 + 1 ≤ 2147483647) ∧ ((0 : Int) ≤ l3 + 1 ∧ l3 + 1 < (L : Int)) ∧ (-2147483648 ≤ l3 + 2 ∧ l3 + 2 ≤ 2147483647) ∧ ((0 : Int) ≤ l3 + 2 ∧ l3 + 2 < (L : Int)) ∧ (-2147483648 ≤ l3 + 3 ∧ l3 + 3 ≤ 2147483647) ∧ ((0 : Int) ≤ l3 + 3 ∧ l3 + 3 < (L : Int)) ∧ (-2147483648 ≤ l3 + 4 ∧ l3 + 4 ≤ 2147483647) ∧ ((0 : Int) ≤ l3 + 4 ∧ l3 + 4 < (L : Int)) ∧ Calls mX8_board [(2, 0), (0, (xs (l3 + 1).toNat).toInt), (0, (xs (l3 + 2).toNat).toInt), (0, (xs (l3 + 3).toNat).toInt), (0, (xs (l3 + 4).toNat).toInt)] S0 M (fun r9 M10 => Calls mX9_board [(2, 275), (0, (xs (l3 + 1).toNat).toInt), (0, (xs (l3 + 2).toNat).toInt), (0, (xs (l3 + 3).toNat).toInt), (0, (xs (l3 + 4).toNat).toInt)] S0 M10 (fun r11 M12 => ((r9 = r11 → AWL L xs 1637 [(3, 0), (2, 0), (2, 275), (0, l3)] M12 Q) ∧ (¬ r9 = r11 → Q 0 M12))))) : AWL L xs 1168 [(3, 0), (2, 0), (2, 275), (0, l3)] M Q := by
  refine a_aload_n (pc := 1168) dL_law_1168 (by decide) rfl ?_
  refine a_saload_n (pc := 1169) dL_law_1169 rfl ?_
  refine a_iload_n (pc := 1170) dL_law_1170 rfl ?_
  refine a_iconst (pc := 1171) dL_law_1171 (by decide) ?_
  have ho1 := h.1
  replace h := h.2
  refine a_iadd (pc := 1172) dL_law_1172 ho1 ?_
  have ho2 := h.1
  replace h := h.2
  refine a_sald (pc := 1173) dL_law_1173 ho2.1 ho2.2 ?_
  refine a_saload_n (pc := 1174) dL_law_1174 rfl ?_
  refine a_iload_n (pc := 1175) dL_law_1175 rfl ?_
  refine a_iconst (pc := 1176) dL_law_1176 (by decide) ?_
  have ho3 := h.1
  replace h := h.2
  refine a_iadd (pc := 1177) dL_law_1177 ho3 ?_
  have ho4 := h.1
  replace h := h.2
  refine a_sald (pc := 1178) dL_law_1178 ho4.1 ho4.2 ?_
  refine a_saload_n (pc := 1179) dL_law_1179 rfl ?_
  refine a_iload_n (pc := 1180) dL_law_1180 rfl ?_
  refine a_iconst (pc := 1181) dL_law_1181 (by decide) ?_
  have ho5 := h.1
  replace h := h.2
  refine a_iadd (pc := 1182) dL_law_1182 ho5 ?_
  have ho6 := h.1
  replace h := h.2
  refine a_sald (pc := 1183) dL_law_1183 ho6.1 ho6.2 ?_
  refine a_saload_n (pc := 1184) dL_law_1184 rfl ?_
  refine a_iload_n (pc := 1185) dL_law_1185 rfl ?_
  refine a_iconst (pc := 1186) dL_law_1186 (by decide) ?_
  have ho7 := h.1
  replace h := h.2
  refine a_iadd (pc := 1187) dL_law_1187 ho7 ?_
  have ho8 := h.1
  replace h := h.2
  refine a_sald (pc := 1188) dL_law_1188 ho8.1 ho8.2 ?_
  refine p_callV (As := [(0, (xs (l3 + 1).toNat).toInt), (0, (xs (l3 + 2).toNat).toInt), (0, (xs (l3 + 3).toNat).toInt), (0, (xs (l3 + 4).toNat).toInt)]) (st := []) (st1 := fun r => [(0, r)])  (pc := 1189) dL_law_1189 ml_RL_108 (by decide) s0_0 rfl (by decide) (Nat.le_of_ble_eq_true rfl) rfl (fun _ => rfl) h (fun r9 M10 h => ?_)
  refine a_aload_n (pc := 1192) dL_law_1192 (by decide) rfl ?_
  refine a_saload_n (pc := 1193) dL_law_1193 rfl ?_
  refine a_iload_n (pc := 1194) dL_law_1194 rfl ?_
  refine a_iconst (pc := 1195) dL_law_1195 (by decide) ?_
  refine a_iadd (pc := 1196) dL_law_1196 ho1 ?_
  refine a_sald (pc := 1197) dL_law_1197 ho2.1 ho2.2 ?_
  refine a_saload_n (pc := 1198) dL_law_1198 rfl ?_
  refine a_iload_n (pc := 1199) dL_law_1199 rfl ?_
  refine a_iconst (pc := 1200) dL_law_1200 (by decide) ?_
  refine a_iadd (pc := 1201) dL_law_1201 ho3 ?_
  refine a_sald (pc := 1202) dL_law_1202 ho4.1 ho4.2 ?_
  refine a_saload_n (pc := 1203) dL_law_1203 rfl ?_
  refine a_iload_n (pc := 1204) dL_law_1204 rfl ?_
  refine a_iconst (pc := 1205) dL_law_1205 (by decide) ?_
  refine a_iadd (pc := 1206) dL_law_1206 ho5 ?_
  refine a_sald (pc := 1207) dL_law_1207 ho6.1 ho6.2 ?_
  refine a_saload_n (pc := 1208) dL_law_1208 rfl ?_
  refine a_iload_n (pc := 1209) dL_law_1209 rfl ?_
  refine a_iconst (pc := 1210) dL_law_1210 (by decide) ?_
  refine a_iadd (pc := 1211) dL_law_1211 ho7 ?_
  refine a_sald (pc := 1212) dL_law_1212 ho8.1 ho8.2 ?_
  refine p_callV (As := [(0, (xs (l3 + 1).toNat).toInt), (0, (xs (l3 + 2).toNat).toInt), (0, (xs (l3 + 3).toNat).toInt), (0, (xs (l3 + 4).toNat).toInt)]) (st := [(0, r9)]) (st1 := fun r => [(0, r), (0, r9)])  (pc := 1213) dL_law_1213 ml_RL_111 (by decide) s0_275 rfl (by decide) (Nat.le_of_ble_eq_true rfl) rfl (fun _ => rfl) h (fun r11 M12 h => ?_)
  refine a_icmp_eq (tgt := 1637) (pc := 1216) dL_law_1216 (by decide) (fun hc13 => ?_) (fun hc13 => ?_)
  · replace h := h.1 hc13
    exact h
  · replace h := h.2 hc13
    refine a_iconst (pc := 1219) dL_law_1219 (by decide) ?_
    exact a_iretz (pc := 1220) dL_law_1220 rfl rfl (Nat.le_of_ble_eq_true rfl) (by decide) ⟨rfl, h⟩
set_option maxRecDepth 100000 in
set_option maxHeartbeats 4000000 in
theorem B_law_1221 {L : Nat} {xs : Nat → Int32} (hL0 : (L : Int) ≤ 2147483647) {l3 : Int} {M : Mem} {Q : Int → Mem → Prop} (h : (-2147483648 ≤ l3 + 1 ∧ l3 + 1 ≤ 2147483647) ∧ ((0 : Int) ≤ l3 + 1 ∧ l3 + 1 < (L : Int)) ∧ Calls mX8_missed [(2, 0), (0, (xs (l3 + 1).toNat).toInt)] S0 M (fun r3 M4 => Calls mX9_missed [(2, 275), (0, (xs (l3 + 1).toNat).toInt)] S0 M4 (fun r5 M6 => ((r3 = r5 → AWL L xs 1637 [(3, 0), (2, 0), (2, 275), (0, l3)] M6 Q) ∧ (¬ r3 = r5 → Q 0 M6))))) : AWL L xs 1221 [(3, 0), (2, 0), (2, 275), (0, l3)] M Q := by
  refine a_aload_n (pc := 1221) dL_law_1221 (by decide) rfl ?_
  refine a_saload_n (pc := 1222) dL_law_1222 rfl ?_
  refine a_iload_n (pc := 1223) dL_law_1223 rfl ?_
  refine a_iconst (pc := 1224) dL_law_1224 (by decide) ?_
  have ho1 := h.1
  replace h := h.2
  refine a_iadd (pc := 1225) dL_law_1225 ho1 ?_
  have ho2 := h.1
  replace h := h.2
  refine a_sald (pc := 1226) dL_law_1226 ho2.1 ho2.2 ?_
  refine p_callV (As := [(0, (xs (l3 + 1).toNat).toInt)]) (st := []) (st1 := fun r => [(0, r)])  (pc := 1227) dL_law_1227 ml_RL_112 (by decide) s0_0 rfl (by decide) (Nat.le_of_ble_eq_true rfl) rfl (fun _ => rfl) h (fun r3 M4 h => ?_)
  refine a_aload_n (pc := 1230) dL_law_1230 (by decide) rfl ?_
  refine a_saload_n (pc := 1231) dL_law_1231 rfl ?_
  refine a_iload_n (pc := 1232) dL_law_1232 rfl ?_
  refine a_iconst (pc := 1233) dL_law_1233 (by decide) ?_
  refine a_iadd (pc := 1234) dL_law_1234 ho1 ?_
  refine a_sald (pc := 1235) dL_law_1235 ho2.1 ho2.2 ?_
  refine p_callV (As := [(0, (xs (l3 + 1).toNat).toInt)]) (st := [(0, r3)]) (st1 := fun r => [(0, r), (0, r3)])  (pc := 1236) dL_law_1236 ml_RL_115 (by decide) s0_275 rfl (by decide) (Nat.le_of_ble_eq_true rfl) rfl (fun _ => rfl) h (fun r5 M6 h => ?_)
  refine a_icmp_eq (tgt := 1637) (pc := 1239) dL_law_1239 (by decide) (fun hc7 => ?_) (fun hc7 => ?_)
  · replace h := h.1 hc7
    exact h
  · replace h := h.2 hc7
    refine a_iconst (pc := 1242) dL_law_1242 (by decide) ?_
    exact a_iretz (pc := 1243) dL_law_1243 rfl rfl (Nat.le_of_ble_eq_true rfl) (by decide) ⟨rfl, h⟩
set_option maxRecDepth 100000 in
set_option maxHeartbeats 4000000 in
theorem B_law_1244 {L : Nat} {xs : Nat → Int32} (hL0 : (L : Int) ≤ 2147483647) {l3 : Int} {M : Mem} {Q : Int → Mem → Prop} (h : (-2147483648 ≤ l3 + 1 ∧ l3 + 1 ≤ 2147483647) ∧ ((0 : Int) ≤ l3 + 1 ∧ l3 + 1 < (L : Int)) ∧ (-2147483648 ≤ l3 + 2 ∧ l3 + 2 ≤ 2147483647) ∧ ((0 : Int) ≤ l3 + 2 ∧ l3 + 2 < (L : Int)) ∧ Calls mX8_meet [(2, 0), (0, (xs (l3 + 1).toNat).toInt), (0, (xs (l3 + 2).toNat).toInt)] S0 M (fun r5 M6 => Calls mX9_meet [(2, 275), (0, (xs (l3 + 1).toNat).toInt), (0, (xs (l3 + 2).toNat).toInt)] S0 M6 (fun r7 M8 => ((r5 = r7 → AWL L xs 1637 [(3, 0), (2, 0), (2, 275), (0, l3)] M8 Q) ∧ (¬ r5 = r7 → Q 0 M8))))) : AWL L xs 1244 [(3, 0), (2, 0), (2, 275), (0, l3)] M Q := by
  refine a_aload_n (pc := 1244) dL_law_1244 (by decide) rfl ?_
  refine a_saload_n (pc := 1245) dL_law_1245 rfl ?_
  refine a_iload_n (pc := 1246) dL_law_1246 rfl ?_
  refine a_iconst (pc := 1247) dL_law_1247 (by decide) ?_
  have ho1 := h.1
  replace h := h.2
  refine a_iadd (pc := 1248) dL_law_1248 ho1 ?_
  have ho2 := h.1
  replace h := h.2
  refine a_sald (pc := 1249) dL_law_1249 ho2.1 ho2.2 ?_
  refine a_saload_n (pc := 1250) dL_law_1250 rfl ?_
  refine a_iload_n (pc := 1251) dL_law_1251 rfl ?_
  refine a_iconst (pc := 1252) dL_law_1252 (by decide) ?_
  have ho3 := h.1
  replace h := h.2
  refine a_iadd (pc := 1253) dL_law_1253 ho3 ?_
  have ho4 := h.1
  replace h := h.2
  refine a_sald (pc := 1254) dL_law_1254 ho4.1 ho4.2 ?_
  refine p_callV (As := [(0, (xs (l3 + 1).toNat).toInt), (0, (xs (l3 + 2).toNat).toInt)]) (st := []) (st1 := fun r => [(0, r)])  (pc := 1255) dL_law_1255 ml_RL_116 (by decide) s0_0 rfl (by decide) (Nat.le_of_ble_eq_true rfl) rfl (fun _ => rfl) h (fun r5 M6 h => ?_)
  refine a_aload_n (pc := 1258) dL_law_1258 (by decide) rfl ?_
  refine a_saload_n (pc := 1259) dL_law_1259 rfl ?_
  refine a_iload_n (pc := 1260) dL_law_1260 rfl ?_
  refine a_iconst (pc := 1261) dL_law_1261 (by decide) ?_
  refine a_iadd (pc := 1262) dL_law_1262 ho1 ?_
  refine a_sald (pc := 1263) dL_law_1263 ho2.1 ho2.2 ?_
  refine a_saload_n (pc := 1264) dL_law_1264 rfl ?_
  refine a_iload_n (pc := 1265) dL_law_1265 rfl ?_
  refine a_iconst (pc := 1266) dL_law_1266 (by decide) ?_
  refine a_iadd (pc := 1267) dL_law_1267 ho3 ?_
  refine a_sald (pc := 1268) dL_law_1268 ho4.1 ho4.2 ?_
  refine p_callV (As := [(0, (xs (l3 + 1).toNat).toInt), (0, (xs (l3 + 2).toNat).toInt)]) (st := [(0, r5)]) (st1 := fun r => [(0, r), (0, r5)])  (pc := 1269) dL_law_1269 ml_RL_119 (by decide) s0_275 rfl (by decide) (Nat.le_of_ble_eq_true rfl) rfl (fun _ => rfl) h (fun r7 M8 h => ?_)
  refine a_icmp_eq (tgt := 1637) (pc := 1272) dL_law_1272 (by decide) (fun hc9 => ?_) (fun hc9 => ?_)
  · replace h := h.1 hc9
    exact h
  · replace h := h.2 hc9
    refine a_iconst (pc := 1275) dL_law_1275 (by decide) ?_
    exact a_iretz (pc := 1276) dL_law_1276 rfl rfl (Nat.le_of_ble_eq_true rfl) (by decide) ⟨rfl, h⟩
set_option maxRecDepth 100000 in
set_option maxHeartbeats 4000000 in
theorem B_law_1277 {L : Nat} {xs : Nat → Int32} (hL0 : (L : Int) ≤ 2147483647) {l3 : Int} {M : Mem} {Q : Int → Mem → Prop} (h : (-2147483648 ≤ l3 + 1 ∧ l3 + 1 ≤ 2147483647) ∧ ((0 : Int) ≤ l3 + 1 ∧ l3 + 1 < (L : Int)) ∧ (-2147483648 ≤ l3 + 2 ∧ l3 + 2 ≤ 2147483647) ∧ ((0 : Int) ≤ l3 + 2 ∧ l3 + 2 < (L : Int)) ∧ (-2147483648 ≤ l3 + 3 ∧ l3 + 3 ≤ 2147483647) ∧ ((0 : Int) ≤ l3 + 3 ∧ l3 + 3 < (L : Int)) ∧ (-2147483648 ≤ l3 + 4 ∧ l3 + 4 ≤ 2147483647) ∧ ((0 : Int) ≤ l3 + 4 ∧ l3 + 4 < (L : Int)) ∧ Calls mX8_spell [(2, 0), (0, (xs (l3 + 1).toNat).toInt), (0, (xs (l3 + 2).toNat).toInt), (0, (xs (l3 + 3).toNat).toInt), (0, (xs (l3 + 4).toNat).toInt)] S0 M (fun r9 M10 => Calls mX9_spell [(2, 275), (0, (xs (l3 + 1).toNat).toInt), (0, (xs (l3 + 2).toNat).toInt), (0, (xs (l3 + 3).toNat).toInt), (0, (xs (l3 + 4).toNat).toInt)] S0 M10 (fun r11 M12 => ((r9 = r11 → AWL L xs 1637 [(3, 0), (2, 0), (2, 275), (0, l3)] M12 Q) ∧ (¬ r9 = r11 → Q 0 M12))))) : AWL L xs 1277 [(3, 0), (2, 0), (2, 275), (0, l3)] M Q := by
  refine a_aload_n (pc := 1277) dL_law_1277 (by decide) rfl ?_
  refine a_saload_n (pc := 1278) dL_law_1278 rfl ?_
  refine a_iload_n (pc := 1279) dL_law_1279 rfl ?_
  refine a_iconst (pc := 1280) dL_law_1280 (by decide) ?_
  have ho1 := h.1
  replace h := h.2
  refine a_iadd (pc := 1281) dL_law_1281 ho1 ?_
  have ho2 := h.1
  replace h := h.2
  refine a_sald (pc := 1282) dL_law_1282 ho2.1 ho2.2 ?_
  refine a_saload_n (pc := 1283) dL_law_1283 rfl ?_
  refine a_iload_n (pc := 1284) dL_law_1284 rfl ?_
  refine a_iconst (pc := 1285) dL_law_1285 (by decide) ?_
  have ho3 := h.1
  replace h := h.2
  refine a_iadd (pc := 1286) dL_law_1286 ho3 ?_
  have ho4 := h.1
  replace h := h.2
  refine a_sald (pc := 1287) dL_law_1287 ho4.1 ho4.2 ?_
  refine a_saload_n (pc := 1288) dL_law_1288 rfl ?_
  refine a_iload_n (pc := 1289) dL_law_1289 rfl ?_
  refine a_iconst (pc := 1290) dL_law_1290 (by decide) ?_
  have ho5 := h.1
  replace h := h.2
  refine a_iadd (pc := 1291) dL_law_1291 ho5 ?_
  have ho6 := h.1
  replace h := h.2
  refine a_sald (pc := 1292) dL_law_1292 ho6.1 ho6.2 ?_
  refine a_saload_n (pc := 1293) dL_law_1293 rfl ?_
  refine a_iload_n (pc := 1294) dL_law_1294 rfl ?_
  refine a_iconst (pc := 1295) dL_law_1295 (by decide) ?_
  have ho7 := h.1
  replace h := h.2
  refine a_iadd (pc := 1296) dL_law_1296 ho7 ?_
  have ho8 := h.1
  replace h := h.2
  refine a_sald (pc := 1297) dL_law_1297 ho8.1 ho8.2 ?_
  refine p_callV (As := [(0, (xs (l3 + 1).toNat).toInt), (0, (xs (l3 + 2).toNat).toInt), (0, (xs (l3 + 3).toNat).toInt), (0, (xs (l3 + 4).toNat).toInt)]) (st := []) (st1 := fun r => [(0, r)])  (pc := 1298) dL_law_1298 ml_RL_120 (by decide) s0_0 rfl (by decide) (Nat.le_of_ble_eq_true rfl) rfl (fun _ => rfl) h (fun r9 M10 h => ?_)
  refine a_aload_n (pc := 1301) dL_law_1301 (by decide) rfl ?_
  refine a_saload_n (pc := 1302) dL_law_1302 rfl ?_
  refine a_iload_n (pc := 1303) dL_law_1303 rfl ?_
  refine a_iconst (pc := 1304) dL_law_1304 (by decide) ?_
  refine a_iadd (pc := 1305) dL_law_1305 ho1 ?_
  refine a_sald (pc := 1306) dL_law_1306 ho2.1 ho2.2 ?_
  refine a_saload_n (pc := 1307) dL_law_1307 rfl ?_
  refine a_iload_n (pc := 1308) dL_law_1308 rfl ?_
  refine a_iconst (pc := 1309) dL_law_1309 (by decide) ?_
  refine a_iadd (pc := 1310) dL_law_1310 ho3 ?_
  refine a_sald (pc := 1311) dL_law_1311 ho4.1 ho4.2 ?_
  refine a_saload_n (pc := 1312) dL_law_1312 rfl ?_
  refine a_iload_n (pc := 1313) dL_law_1313 rfl ?_
  refine a_iconst (pc := 1314) dL_law_1314 (by decide) ?_
  refine a_iadd (pc := 1315) dL_law_1315 ho5 ?_
  refine a_sald (pc := 1316) dL_law_1316 ho6.1 ho6.2 ?_
  refine a_saload_n (pc := 1317) dL_law_1317 rfl ?_
  refine a_iload_n (pc := 1318) dL_law_1318 rfl ?_
  refine a_iconst (pc := 1319) dL_law_1319 (by decide) ?_
  refine a_iadd (pc := 1320) dL_law_1320 ho7 ?_
  refine a_sald (pc := 1321) dL_law_1321 ho8.1 ho8.2 ?_
  refine p_callV (As := [(0, (xs (l3 + 1).toNat).toInt), (0, (xs (l3 + 2).toNat).toInt), (0, (xs (l3 + 3).toNat).toInt), (0, (xs (l3 + 4).toNat).toInt)]) (st := [(0, r9)]) (st1 := fun r => [(0, r), (0, r9)])  (pc := 1322) dL_law_1322 ml_RL_123 (by decide) s0_275 rfl (by decide) (Nat.le_of_ble_eq_true rfl) rfl (fun _ => rfl) h (fun r11 M12 h => ?_)
  refine a_icmp_eq (tgt := 1637) (pc := 1325) dL_law_1325 (by decide) (fun hc13 => ?_) (fun hc13 => ?_)
  · replace h := h.1 hc13
    exact h
  · replace h := h.2 hc13
    refine a_iconst (pc := 1328) dL_law_1328 (by decide) ?_
    exact a_iretz (pc := 1329) dL_law_1329 rfl rfl (Nat.le_of_ble_eq_true rfl) (by decide) ⟨rfl, h⟩
set_option maxRecDepth 100000 in
set_option maxHeartbeats 4000000 in
theorem B_law_1330 {L : Nat} {xs : Nat → Int32} (hL0 : (L : Int) ≤ 2147483647) {l3 : Int} {M : Mem} {Q : Int → Mem → Prop} (h : (-2147483648 ≤ l3 + 1 ∧ l3 + 1 ≤ 2147483647) ∧ ((0 : Int) ≤ l3 + 1 ∧ l3 + 1 < (L : Int)) ∧ Calls mX8_paper [(2, 0), (0, (xs (l3 + 1).toNat).toInt)] S0 M (fun r3 M4 => Calls mX9_paper [(2, 275), (0, (xs (l3 + 1).toNat).toInt)] S0 M4 (fun r5 M6 => ((r3 = r5 → AWL L xs 1637 [(3, 0), (2, 0), (2, 275), (0, l3)] M6 Q) ∧ (¬ r3 = r5 → Q 0 M6))))) : AWL L xs 1330 [(3, 0), (2, 0), (2, 275), (0, l3)] M Q := by
  refine a_aload_n (pc := 1330) dL_law_1330 (by decide) rfl ?_
  refine a_saload_n (pc := 1331) dL_law_1331 rfl ?_
  refine a_iload_n (pc := 1332) dL_law_1332 rfl ?_
  refine a_iconst (pc := 1333) dL_law_1333 (by decide) ?_
  have ho1 := h.1
  replace h := h.2
  refine a_iadd (pc := 1334) dL_law_1334 ho1 ?_
  have ho2 := h.1
  replace h := h.2
  refine a_sald (pc := 1335) dL_law_1335 ho2.1 ho2.2 ?_
  refine p_callV (As := [(0, (xs (l3 + 1).toNat).toInt)]) (st := []) (st1 := fun r => [(0, r)])  (pc := 1336) dL_law_1336 ml_RL_124 (by decide) s0_0 rfl (by decide) (Nat.le_of_ble_eq_true rfl) rfl (fun _ => rfl) h (fun r3 M4 h => ?_)
  refine a_aload_n (pc := 1339) dL_law_1339 (by decide) rfl ?_
  refine a_saload_n (pc := 1340) dL_law_1340 rfl ?_
  refine a_iload_n (pc := 1341) dL_law_1341 rfl ?_
  refine a_iconst (pc := 1342) dL_law_1342 (by decide) ?_
  refine a_iadd (pc := 1343) dL_law_1343 ho1 ?_
  refine a_sald (pc := 1344) dL_law_1344 ho2.1 ho2.2 ?_
  refine p_callV (As := [(0, (xs (l3 + 1).toNat).toInt)]) (st := [(0, r3)]) (st1 := fun r => [(0, r), (0, r3)])  (pc := 1345) dL_law_1345 ml_RL_127 (by decide) s0_275 rfl (by decide) (Nat.le_of_ble_eq_true rfl) rfl (fun _ => rfl) h (fun r5 M6 h => ?_)
  refine a_icmp_eq (tgt := 1637) (pc := 1348) dL_law_1348 (by decide) (fun hc7 => ?_) (fun hc7 => ?_)
  · replace h := h.1 hc7
    exact h
  · replace h := h.2 hc7
    refine a_iconst (pc := 1351) dL_law_1351 (by decide) ?_
    exact a_iretz (pc := 1352) dL_law_1352 rfl rfl (Nat.le_of_ble_eq_true rfl) (by decide) ⟨rfl, h⟩
set_option maxRecDepth 100000 in
set_option maxHeartbeats 4000000 in
theorem B_law_1353 {L : Nat} {xs : Nat → Int32} (hL0 : (L : Int) ≤ 2147483647) {l3 : Int} {M : Mem} {Q : Int → Mem → Prop} (h : (-2147483648 ≤ l3 + 1 ∧ l3 + 1 ≤ 2147483647) ∧ ((0 : Int) ≤ l3 + 1 ∧ l3 + 1 < (L : Int)) ∧ Calls mX8_told [(2, 0), (0, (xs (l3 + 1).toNat).toInt)] S0 M (fun r3 M4 => Calls mX9_told [(2, 275), (0, (xs (l3 + 1).toNat).toInt)] S0 M4 (fun r5 M6 => ((r3 = r5 → AWL L xs 1637 [(3, 0), (2, 0), (2, 275), (0, l3)] M6 Q) ∧ (¬ r3 = r5 → Q 0 M6))))) : AWL L xs 1353 [(3, 0), (2, 0), (2, 275), (0, l3)] M Q := by
  refine a_aload_n (pc := 1353) dL_law_1353 (by decide) rfl ?_
  refine a_saload_n (pc := 1354) dL_law_1354 rfl ?_
  refine a_iload_n (pc := 1355) dL_law_1355 rfl ?_
  refine a_iconst (pc := 1356) dL_law_1356 (by decide) ?_
  have ho1 := h.1
  replace h := h.2
  refine a_iadd (pc := 1357) dL_law_1357 ho1 ?_
  have ho2 := h.1
  replace h := h.2
  refine a_sald (pc := 1358) dL_law_1358 ho2.1 ho2.2 ?_
  refine p_callV (As := [(0, (xs (l3 + 1).toNat).toInt)]) (st := []) (st1 := fun r => [(0, r)])  (pc := 1359) dL_law_1359 ml_RL_128 (by decide) s0_0 rfl (by decide) (Nat.le_of_ble_eq_true rfl) rfl (fun _ => rfl) h (fun r3 M4 h => ?_)
  refine a_aload_n (pc := 1362) dL_law_1362 (by decide) rfl ?_
  refine a_saload_n (pc := 1363) dL_law_1363 rfl ?_
  refine a_iload_n (pc := 1364) dL_law_1364 rfl ?_
  refine a_iconst (pc := 1365) dL_law_1365 (by decide) ?_
  refine a_iadd (pc := 1366) dL_law_1366 ho1 ?_
  refine a_sald (pc := 1367) dL_law_1367 ho2.1 ho2.2 ?_
  refine p_callV (As := [(0, (xs (l3 + 1).toNat).toInt)]) (st := [(0, r3)]) (st1 := fun r => [(0, r), (0, r3)])  (pc := 1368) dL_law_1368 ml_RL_131 (by decide) s0_275 rfl (by decide) (Nat.le_of_ble_eq_true rfl) rfl (fun _ => rfl) h (fun r5 M6 h => ?_)
  refine a_icmp_eq (tgt := 1637) (pc := 1371) dL_law_1371 (by decide) (fun hc7 => ?_) (fun hc7 => ?_)
  · replace h := h.1 hc7
    exact h
  · replace h := h.2 hc7
    refine a_iconst (pc := 1374) dL_law_1374 (by decide) ?_
    exact a_iretz (pc := 1375) dL_law_1375 rfl rfl (Nat.le_of_ble_eq_true rfl) (by decide) ⟨rfl, h⟩
set_option maxRecDepth 100000 in
set_option maxHeartbeats 4000000 in
theorem B_law_1376 {L : Nat} {xs : Nat → Int32} (hL0 : (L : Int) ≤ 2147483647) {l3 : Int} {M : Mem} {Q : Int → Mem → Prop} (h : (-2147483648 ≤ l3 + 1 ∧ l3 + 1 ≤ 2147483647) ∧ ((0 : Int) ≤ l3 + 1 ∧ l3 + 1 < (L : Int)) ∧ (-2147483648 ≤ l3 + 2 ∧ l3 + 2 ≤ 2147483647) ∧ ((0 : Int) ≤ l3 + 2 ∧ l3 + 2 < (L : Int)) ∧ Calls mX8_list [(2, 0), (0, (xs (l3 + 1).toNat).toInt), (0, (xs (l3 + 2).toNat).toInt)] S0 M (fun r5 M6 => Calls mX9_list [(2, 275), (0, (xs (l3 + 1).toNat).toInt), (0, (xs (l3 + 2).toNat).toInt)] S0 M6 (fun r7 M8 => ((r5 = r7 → AWL L xs 1637 [(3, 0), (2, 0), (2, 275), (0, l3)] M8 Q) ∧ (¬ r5 = r7 → Q 0 M8))))) : AWL L xs 1376 [(3, 0), (2, 0), (2, 275), (0, l3)] M Q := by
  refine a_aload_n (pc := 1376) dL_law_1376 (by decide) rfl ?_
  refine a_saload_n (pc := 1377) dL_law_1377 rfl ?_
  refine a_iload_n (pc := 1378) dL_law_1378 rfl ?_
  refine a_iconst (pc := 1379) dL_law_1379 (by decide) ?_
  have ho1 := h.1
  replace h := h.2
  refine a_iadd (pc := 1380) dL_law_1380 ho1 ?_
  have ho2 := h.1
  replace h := h.2
  refine a_sald (pc := 1381) dL_law_1381 ho2.1 ho2.2 ?_
  refine a_saload_n (pc := 1382) dL_law_1382 rfl ?_
  refine a_iload_n (pc := 1383) dL_law_1383 rfl ?_
  refine a_iconst (pc := 1384) dL_law_1384 (by decide) ?_
  have ho3 := h.1
  replace h := h.2
  refine a_iadd (pc := 1385) dL_law_1385 ho3 ?_
  have ho4 := h.1
  replace h := h.2
  refine a_sald (pc := 1386) dL_law_1386 ho4.1 ho4.2 ?_
  refine p_callV (As := [(0, (xs (l3 + 1).toNat).toInt), (0, (xs (l3 + 2).toNat).toInt)]) (st := []) (st1 := fun r => [(0, r)])  (pc := 1387) dL_law_1387 ml_RL_132 (by decide) s0_0 rfl (by decide) (Nat.le_of_ble_eq_true rfl) rfl (fun _ => rfl) h (fun r5 M6 h => ?_)
  refine a_aload_n (pc := 1390) dL_law_1390 (by decide) rfl ?_
  refine a_saload_n (pc := 1391) dL_law_1391 rfl ?_
  refine a_iload_n (pc := 1392) dL_law_1392 rfl ?_
  refine a_iconst (pc := 1393) dL_law_1393 (by decide) ?_
  refine a_iadd (pc := 1394) dL_law_1394 ho1 ?_
  refine a_sald (pc := 1395) dL_law_1395 ho2.1 ho2.2 ?_
  refine a_saload_n (pc := 1396) dL_law_1396 rfl ?_
  refine a_iload_n (pc := 1397) dL_law_1397 rfl ?_
  refine a_iconst (pc := 1398) dL_law_1398 (by decide) ?_
  refine a_iadd (pc := 1399) dL_law_1399 ho3 ?_
  refine a_sald (pc := 1400) dL_law_1400 ho4.1 ho4.2 ?_
  refine p_callV (As := [(0, (xs (l3 + 1).toNat).toInt), (0, (xs (l3 + 2).toNat).toInt)]) (st := [(0, r5)]) (st1 := fun r => [(0, r), (0, r5)])  (pc := 1401) dL_law_1401 ml_RL_135 (by decide) s0_275 rfl (by decide) (Nat.le_of_ble_eq_true rfl) rfl (fun _ => rfl) h (fun r7 M8 h => ?_)
  refine a_icmp_eq (tgt := 1637) (pc := 1404) dL_law_1404 (by decide) (fun hc9 => ?_) (fun hc9 => ?_)
  · replace h := h.1 hc9
    exact h
  · replace h := h.2 hc9
    refine a_iconst (pc := 1407) dL_law_1407 (by decide) ?_
    exact a_iretz (pc := 1408) dL_law_1408 rfl rfl (Nat.le_of_ble_eq_true rfl) (by decide) ⟨rfl, h⟩
set_option maxRecDepth 100000 in
set_option maxHeartbeats 4000000 in
theorem B_law_1409 {L : Nat} {xs : Nat → Int32} (hL0 : (L : Int) ≤ 2147483647) {l3 : Int} {M : Mem} {Q : Int → Mem → Prop} (h : (-2147483648 ≤ l3 + 1 ∧ l3 + 1 ≤ 2147483647) ∧ ((0 : Int) ≤ l3 + 1 ∧ l3 + 1 < (L : Int)) ∧ (-2147483648 ≤ l3 + 2 ∧ l3 + 2 ≤ 2147483647) ∧ ((0 : Int) ≤ l3 + 2 ∧ l3 + 2 < (L : Int)) ∧ (-2147483648 ≤ l3 + 3 ∧ l3 + 3 ≤ 2147483647) ∧ ((0 : Int) ≤ l3 + 3 ∧ l3 + 3 < (L : Int)) ∧ Calls mX8_set [(2, 0), (0, (xs (l3 + 1).toNat).toInt), (0, (xs (l3 + 2).toNat).toInt), (0, (xs (l3 + 3).toNat).toInt)] S0 M (fun r7 M8 => Calls mX9_set [(2, 275), (0, (xs (l3 + 1).toNat).toInt), (0, (xs (l3 + 2).toNat).toInt), (0, (xs (l3 + 3).toNat).toInt)] S0 M8 (fun r9 M10 => ((r7 = r9 → AWL L xs 1637 [(3, 0), (2, 0), (2, 275), (0, l3)] M10 Q) ∧ (¬ r7 = r9 → Q 0 M10))))) : AWL L xs 1409 [(3, 0), (2, 0), (2, 275), (0, l3)] M Q := by
  refine a_aload_n (pc := 1409) dL_law_1409 (by decide) rfl ?_
  refine a_saload_n (pc := 1410) dL_law_1410 rfl ?_
  refine a_iload_n (pc := 1411) dL_law_1411 rfl ?_
  refine a_iconst (pc := 1412) dL_law_1412 (by decide) ?_
  have ho1 := h.1
  replace h := h.2
  refine a_iadd (pc := 1413) dL_law_1413 ho1 ?_
  have ho2 := h.1
  replace h := h.2
  refine a_sald (pc := 1414) dL_law_1414 ho2.1 ho2.2 ?_
  refine a_saload_n (pc := 1415) dL_law_1415 rfl ?_
  refine a_iload_n (pc := 1416) dL_law_1416 rfl ?_
  refine a_iconst (pc := 1417) dL_law_1417 (by decide) ?_
  have ho3 := h.1
  replace h := h.2
  refine a_iadd (pc := 1418) dL_law_1418 ho3 ?_
  have ho4 := h.1
  replace h := h.2
  refine a_sald (pc := 1419) dL_law_1419 ho4.1 ho4.2 ?_
  refine a_saload_n (pc := 1420) dL_law_1420 rfl ?_
  refine a_iload_n (pc := 1421) dL_law_1421 rfl ?_
  refine a_iconst (pc := 1422) dL_law_1422 (by decide) ?_
  have ho5 := h.1
  replace h := h.2
  refine a_iadd (pc := 1423) dL_law_1423 ho5 ?_
  have ho6 := h.1
  replace h := h.2
  refine a_sald (pc := 1424) dL_law_1424 ho6.1 ho6.2 ?_
  refine p_callV (As := [(0, (xs (l3 + 1).toNat).toInt), (0, (xs (l3 + 2).toNat).toInt), (0, (xs (l3 + 3).toNat).toInt)]) (st := []) (st1 := fun r => [(0, r)])  (pc := 1425) dL_law_1425 ml_RL_136 (by decide) s0_0 rfl (by decide) (Nat.le_of_ble_eq_true rfl) rfl (fun _ => rfl) h (fun r7 M8 h => ?_)
  refine a_aload_n (pc := 1428) dL_law_1428 (by decide) rfl ?_
  refine a_saload_n (pc := 1429) dL_law_1429 rfl ?_
  refine a_iload_n (pc := 1430) dL_law_1430 rfl ?_
  refine a_iconst (pc := 1431) dL_law_1431 (by decide) ?_
  refine a_iadd (pc := 1432) dL_law_1432 ho1 ?_
  refine a_sald (pc := 1433) dL_law_1433 ho2.1 ho2.2 ?_
  refine a_saload_n (pc := 1434) dL_law_1434 rfl ?_
  refine a_iload_n (pc := 1435) dL_law_1435 rfl ?_
  refine a_iconst (pc := 1436) dL_law_1436 (by decide) ?_
  refine a_iadd (pc := 1437) dL_law_1437 ho3 ?_
  refine a_sald (pc := 1438) dL_law_1438 ho4.1 ho4.2 ?_
  refine a_saload_n (pc := 1439) dL_law_1439 rfl ?_
  refine a_iload_n (pc := 1440) dL_law_1440 rfl ?_
  refine a_iconst (pc := 1441) dL_law_1441 (by decide) ?_
  refine a_iadd (pc := 1442) dL_law_1442 ho5 ?_
  refine a_sald (pc := 1443) dL_law_1443 ho6.1 ho6.2 ?_
  refine p_callV (As := [(0, (xs (l3 + 1).toNat).toInt), (0, (xs (l3 + 2).toNat).toInt), (0, (xs (l3 + 3).toNat).toInt)]) (st := [(0, r7)]) (st1 := fun r => [(0, r), (0, r7)])  (pc := 1444) dL_law_1444 ml_RL_139 (by decide) s0_275 rfl (by decide) (Nat.le_of_ble_eq_true rfl) rfl (fun _ => rfl) h (fun r9 M10 h => ?_)
  refine a_icmp_eq (tgt := 1637) (pc := 1447) dL_law_1447 (by decide) (fun hc11 => ?_) (fun hc11 => ?_)
  · replace h := h.1 hc11
    exact h
  · replace h := h.2 hc11
    refine a_iconst (pc := 1450) dL_law_1450 (by decide) ?_
    exact a_iretz (pc := 1451) dL_law_1451 rfl rfl (Nat.le_of_ble_eq_true rfl) (by decide) ⟨rfl, h⟩
set_option maxRecDepth 100000 in
set_option maxHeartbeats 4000000 in
theorem B_law_1452 {L : Nat} {xs : Nat → Int32} (hL0 : (L : Int) ≤ 2147483647) {l3 : Int} {M : Mem} {Q : Int → Mem → Prop} (h : (-2147483648 ≤ l3 + 1 ∧ l3 + 1 ≤ 2147483647) ∧ ((0 : Int) ≤ l3 + 1 ∧ l3 + 1 < (L : Int)) ∧ (-2147483648 ≤ l3 + 2 ∧ l3 + 2 ≤ 2147483647) ∧ ((0 : Int) ≤ l3 + 2 ∧ l3 + 2 < (L : Int)) ∧ Calls mX8_get [(2, 0), (0, (xs (l3 + 1).toNat).toInt), (0, (xs (l3 + 2).toNat).toInt)] S0 M (fun r5 M6 => Calls mX9_get [(2, 275), (0, (xs (l3 + 1).toNat).toInt), (0, (xs (l3 + 2).toNat).toInt)] S0 M6 (fun r7 M8 => ((r5 = r7 → AWL L xs 1637 [(3, 0), (2, 0), (2, 275), (0, l3)] M8 Q) ∧ (¬ r5 = r7 → Q 0 M8))))) : AWL L xs 1452 [(3, 0), (2, 0), (2, 275), (0, l3)] M Q := by
  refine a_aload_n (pc := 1452) dL_law_1452 (by decide) rfl ?_
  refine a_saload_n (pc := 1453) dL_law_1453 rfl ?_
  refine a_iload_n (pc := 1454) dL_law_1454 rfl ?_
  refine a_iconst (pc := 1455) dL_law_1455 (by decide) ?_
  have ho1 := h.1
  replace h := h.2
  refine a_iadd (pc := 1456) dL_law_1456 ho1 ?_
  have ho2 := h.1
  replace h := h.2
  refine a_sald (pc := 1457) dL_law_1457 ho2.1 ho2.2 ?_
  refine a_saload_n (pc := 1458) dL_law_1458 rfl ?_
  refine a_iload_n (pc := 1459) dL_law_1459 rfl ?_
  refine a_iconst (pc := 1460) dL_law_1460 (by decide) ?_
  have ho3 := h.1
  replace h := h.2
  refine a_iadd (pc := 1461) dL_law_1461 ho3 ?_
  have ho4 := h.1
  replace h := h.2
  refine a_sald (pc := 1462) dL_law_1462 ho4.1 ho4.2 ?_
  refine p_callV (As := [(0, (xs (l3 + 1).toNat).toInt), (0, (xs (l3 + 2).toNat).toInt)]) (st := []) (st1 := fun r => [(0, r)])  (pc := 1463) dL_law_1463 ml_RL_140 (by decide) s0_0 rfl (by decide) (Nat.le_of_ble_eq_true rfl) rfl (fun _ => rfl) h (fun r5 M6 h => ?_)
  refine a_aload_n (pc := 1466) dL_law_1466 (by decide) rfl ?_
  refine a_saload_n (pc := 1467) dL_law_1467 rfl ?_
  refine a_iload_n (pc := 1468) dL_law_1468 rfl ?_
  refine a_iconst (pc := 1469) dL_law_1469 (by decide) ?_
  refine a_iadd (pc := 1470) dL_law_1470 ho1 ?_
  refine a_sald (pc := 1471) dL_law_1471 ho2.1 ho2.2 ?_
  refine a_saload_n (pc := 1472) dL_law_1472 rfl ?_
  refine a_iload_n (pc := 1473) dL_law_1473 rfl ?_
  refine a_iconst (pc := 1474) dL_law_1474 (by decide) ?_
  refine a_iadd (pc := 1475) dL_law_1475 ho3 ?_
  refine a_sald (pc := 1476) dL_law_1476 ho4.1 ho4.2 ?_
  refine p_callV (As := [(0, (xs (l3 + 1).toNat).toInt), (0, (xs (l3 + 2).toNat).toInt)]) (st := [(0, r5)]) (st1 := fun r => [(0, r), (0, r5)])  (pc := 1477) dL_law_1477 ml_RL_143 (by decide) s0_275 rfl (by decide) (Nat.le_of_ble_eq_true rfl) rfl (fun _ => rfl) h (fun r7 M8 h => ?_)
  refine a_icmp_eq (tgt := 1637) (pc := 1480) dL_law_1480 (by decide) (fun hc9 => ?_) (fun hc9 => ?_)
  · replace h := h.1 hc9
    exact h
  · replace h := h.2 hc9
    refine a_iconst (pc := 1483) dL_law_1483 (by decide) ?_
    exact a_iretz (pc := 1484) dL_law_1484 rfl rfl (Nat.le_of_ble_eq_true rfl) (by decide) ⟨rfl, h⟩
set_option maxRecDepth 100000 in
set_option maxHeartbeats 4000000 in
theorem B_law_1485 {L : Nat} {xs : Nat → Int32} (hL0 : (L : Int) ≤ 2147483647) {l3 : Int} {M : Mem} {Q : Int → Mem → Prop} (h : (-2147483648 ≤ l3 + 1 ∧ l3 + 1 ≤ 2147483647) ∧ ((0 : Int) ≤ l3 + 1 ∧ l3 + 1 < (L : Int)) ∧ (-2147483648 ≤ l3 + 2 ∧ l3 + 2 ≤ 2147483647) ∧ ((0 : Int) ≤ l3 + 2 ∧ l3 + 2 < (L : Int)) ∧ (-2147483648 ≤ l3 + 3 ∧ l3 + 3 ≤ 2147483647) ∧ ((0 : Int) ≤ l3 + 3 ∧ l3 + 3 < (L : Int)) ∧ (-2147483648 ≤ l3 + 4 ∧ l3 + 4 ≤ 2147483647) ∧ ((0 : Int) ≤ l3 + 4 ∧ l3 + 4 < (L : Int)) ∧ (-2147483648 ≤ l3 + 5 ∧ l3 + 5 ≤ 2147483647) ∧ ((0 : Int) ≤ l3 + 5 ∧ l3 + 5 < (L : Int)) ∧ Calls mX8_lay [(2, 0), (0, (xs (l3 + 1).toNat).toInt), (0, (xs (l3 + 2).toNat).toInt), (0, (xs (l3 + 3).toNat).toInt), (0, (xs (l3 + 4).toNat).toInt), (0, (xs (l3 + 5).toNat).toInt)] S0 M (fun r11 M12 => Calls mX9_lay [(2, 275), (0, (xs (l3 + 1).toNat).toInt), (0, (xs (l3 + 2).toNat).toInt), (0, (xs (l3 + 3).toNat).toInt), (0, (xs (l3 + 4).toNat).toInt), (0, (xs (l3 + 5).toNat).toInt)] S0 M12 (fun r13 M14 => ((r11 = r13 → AWL L xs 1637 [(3, 0), (2, 0), (2, 275), (0, l3)] M14 Q) ∧ (¬ r11 = r13 → Q 0 M14))))) : AWL L xs 1485 [(3, 0), (2, 0), (2, 275), (0, l3)] M Q := by
  refine a_aload_n (pc := 1485) dL_law_1485 (by decide) rfl ?_
  refine a_saload_n (pc := 1486) dL_law_1486 rfl ?_
  refine a_iload_n (pc := 1487) dL_law_1487 rfl ?_
  refine a_iconst (pc := 1488) dL_law_1488 (by decide) ?_
  have ho1 := h.1
  replace h := h.2
  refine a_iadd (pc := 1489) dL_law_1489 ho1 ?_
  have ho2 := h.1
  replace h := h.2
  refine a_sald (pc := 1490) dL_law_1490 ho2.1 ho2.2 ?_
  refine a_saload_n (pc := 1491) dL_law_1491 rfl ?_
  refine a_iload_n (pc := 1492) dL_law_1492 rfl ?_
  refine a_iconst (pc := 1493) dL_law_1493 (by decide) ?_
  have ho3 := h.1
  replace h := h.2
  refine a_iadd (pc := 1494) dL_law_1494 ho3 ?_
  have ho4 := h.1
  replace h := h.2
  refine a_sald (pc := 1495) dL_law_1495 ho4.1 ho4.2 ?_
  refine a_saload_n (pc := 1496) dL_law_1496 rfl ?_
  refine a_iload_n (pc := 1497) dL_law_1497 rfl ?_
  refine a_iconst (pc := 1498) dL_law_1498 (by decide) ?_
  have ho5 := h.1
  replace h := h.2
  refine a_iadd (pc := 1499) dL_law_1499 ho5 ?_
  have ho6 := h.1
  replace h := h.2
  refine a_sald (pc := 1500) dL_law_1500 ho6.1 ho6.2 ?_
  refine a_saload_n (pc := 1501) dL_law_1501 rfl ?_
  refine a_iload_n (pc := 1502) dL_law_1502 rfl ?_
  refine a_iconst (pc := 1503) dL_law_1503 (by decide) ?_
  have ho7 := h.1
  replace h := h.2
  refine a_iadd (pc := 1504) dL_law_1504 ho7 ?_
  have ho8 := h.1
  replace h := h.2
  refine a_sald (pc := 1505) dL_law_1505 ho8.1 ho8.2 ?_
  refine a_saload_n (pc := 1506) dL_law_1506 rfl ?_
  refine a_iload_n (pc := 1507) dL_law_1507 rfl ?_
  refine a_iconst (pc := 1508) dL_law_1508 (by decide) ?_
  have ho9 := h.1
  replace h := h.2
  refine a_iadd (pc := 1509) dL_law_1509 ho9 ?_
  have ho10 := h.1
  replace h := h.2
  refine a_sald (pc := 1510) dL_law_1510 ho10.1 ho10.2 ?_
  refine p_callV (As := [(0, (xs (l3 + 1).toNat).toInt), (0, (xs (l3 + 2).toNat).toInt), (0, (xs (l3 + 3).toNat).toInt), (0, (xs (l3 + 4).toNat).toInt), (0, (xs (l3 + 5).toNat).toInt)]) (st := []) (st1 := fun r => [(0, r)])  (pc := 1511) dL_law_1511 ml_RL_144 (by decide) s0_0 rfl (by decide) (Nat.le_of_ble_eq_true rfl) rfl (fun _ => rfl) h (fun r11 M12 h => ?_)
  refine a_aload_n (pc := 1514) dL_law_1514 (by decide) rfl ?_
  refine a_saload_n (pc := 1515) dL_law_1515 rfl ?_
  refine a_iload_n (pc := 1516) dL_law_1516 rfl ?_
  refine a_iconst (pc := 1517) dL_law_1517 (by decide) ?_
  refine a_iadd (pc := 1518) dL_law_1518 ho1 ?_
  refine a_sald (pc := 1519) dL_law_1519 ho2.1 ho2.2 ?_
  refine a_saload_n (pc := 1520) dL_law_1520 rfl ?_
  refine a_iload_n (pc := 1521) dL_law_1521 rfl ?_
  refine a_iconst (pc := 1522) dL_law_1522 (by decide) ?_
  refine a_iadd (pc := 1523) dL_law_1523 ho3 ?_
  refine a_sald (pc := 1524) dL_law_1524 ho4.1 ho4.2 ?_
  refine a_saload_n (pc := 1525) dL_law_1525 rfl ?_
  refine a_iload_n (pc := 1526) dL_law_1526 rfl ?_
  refine a_iconst (pc := 1527) dL_law_1527 (by decide) ?_
  refine a_iadd (pc := 1528) dL_law_1528 ho5 ?_
  refine a_sald (pc := 1529) dL_law_1529 ho6.1 ho6.2 ?_
  refine a_saload_n (pc := 1530) dL_law_1530 rfl ?_
  refine a_iload_n (pc := 1531) dL_law_1531 rfl ?_
  refine a_iconst (pc := 1532) dL_law_1532 (by decide) ?_
  refine a_iadd (pc := 1533) dL_law_1533 ho7 ?_
  refine a_sald (pc := 1534) dL_law_1534 ho8.1 ho8.2 ?_
  refine a_saload_n (pc := 1535) dL_law_1535 rfl ?_
  refine a_iload_n (pc := 1536) dL_law_1536 rfl ?_
  refine a_iconst (pc := 1537) dL_law_1537 (by decide) ?_
  refine a_iadd (pc := 1538) dL_law_1538 ho9 ?_
  refine a_sald (pc := 1539) dL_law_1539 ho10.1 ho10.2 ?_
  refine p_callV (As := [(0, (xs (l3 + 1).toNat).toInt), (0, (xs (l3 + 2).toNat).toInt), (0, (xs (l3 + 3).toNat).toInt), (0, (xs (l3 + 4).toNat).toInt), (0, (xs (l3 + 5).toNat).toInt)]) (st := [(0, r11)]) (st1 := fun r => [(0, r), (0, r11)])  (pc := 1540) dL_law_1540 ml_RL_147 (by decide) s0_275 rfl (by decide) (Nat.le_of_ble_eq_true rfl) rfl (fun _ => rfl) h (fun r13 M14 h => ?_)
  refine a_icmp_eq (tgt := 1637) (pc := 1543) dL_law_1543 (by decide) (fun hc15 => ?_) (fun hc15 => ?_)
  · replace h := h.1 hc15
    exact h
  · replace h := h.2 hc15
    refine a_iconst (pc := 1546) dL_law_1546 (by decide) ?_
    exact a_iretz (pc := 1547) dL_law_1547 rfl rfl (Nat.le_of_ble_eq_true rfl) (by decide) ⟨rfl, h⟩
set_option maxRecDepth 100000 in
set_option maxHeartbeats 4000000 in
theorem B_law_1548 {L : Nat} {xs : Nat → Int32} (hL0 : (L : Int) ≤ 2147483647) {l3 : Int} {M : Mem} {Q : Int → Mem → Prop} (h : (-2147483648 ≤ l3 + 1 ∧ l3 + 1 ≤ 2147483647) ∧ ((0 : Int) ≤ l3 + 1 ∧ l3 + 1 < (L : Int)) ∧ (-2147483648 ≤ l3 + 2 ∧ l3 + 2 ≤ 2147483647) ∧ ((0 : Int) ≤ l3 + 2 ∧ l3 + 2 < (L : Int)) ∧ (-2147483648 ≤ l3 + 3 ∧ l3 + 3 ≤ 2147483647) ∧ ((0 : Int) ≤ l3 + 3 ∧ l3 + 3 < (L : Int)) ∧ (-2147483648 ≤ l3 + 4 ∧ l3 + 4 ≤ 2147483647) ∧ ((0 : Int) ≤ l3 + 4 ∧ l3 + 4 < (L : Int)) ∧ (-2147483648 ≤ l3 + 5 ∧ l3 + 5 ≤ 2147483647) ∧ ((0 : Int) ≤ l3 + 5 ∧ l3 + 5 < (L : Int)) ∧ Calls mX8_judge [(2, 0), (0, (xs (l3 + 1).toNat).toInt), (0, (xs (l3 + 2).toNat).toInt), (0, (xs (l3 + 3).toNat).toInt), (0, (xs (l3 + 4).toNat).toInt), (0, (xs (l3 + 5).toNat).toInt)] S0 M (fun r11 M12 => Calls mX9_judge [(2, 275), (0, (xs (l3 + 1).toNat).toInt), (0, (xs (l3 + 2).toNat).toInt), (0, (xs (l3 + 3).toNat).toInt), (0, (xs (l3 + 4).toNat).toInt), (0, (xs (l3 + 5).toNat).toInt)] S0 M12 (fun r13 M14 => ((r11 = r13 → AWL L xs 1637 [(3, 0), (2, 0), (2, 275), (0, l3)] M14 Q) ∧ (¬ r11 = r13 → Q 0 M14))))) : AWL L xs 1548 [(3, 0), (2, 0), (2, 275), (0, l3)] M Q := by
  refine a_aload_n (pc := 1548) dL_law_1548 (by decide) rfl ?_
  refine a_saload_n (pc := 1549) dL_law_1549 rfl ?_
  refine a_iload_n (pc := 1550) dL_law_1550 rfl ?_
  refine a_iconst (pc := 1551) dL_law_1551 (by decide) ?_
  have ho1 := h.1
  replace h := h.2
  refine a_iadd (pc := 1552) dL_law_1552 ho1 ?_
  have ho2 := h.1
  replace h := h.2
  refine a_sald (pc := 1553) dL_law_1553 ho2.1 ho2.2 ?_
  refine a_saload_n (pc := 1554) dL_law_1554 rfl ?_
  refine a_iload_n (pc := 1555) dL_law_1555 rfl ?_
  refine a_iconst (pc := 1556) dL_law_1556 (by decide) ?_
  have ho3 := h.1
  replace h := h.2
  refine a_iadd (pc := 1557) dL_law_1557 ho3 ?_
  have ho4 := h.1
  replace h := h.2
  refine a_sald (pc := 1558) dL_law_1558 ho4.1 ho4.2 ?_
  refine a_saload_n (pc := 1559) dL_law_1559 rfl ?_
  refine a_iload_n (pc := 1560) dL_law_1560 rfl ?_
  refine a_iconst (pc := 1561) dL_law_1561 (by decide) ?_
  have ho5 := h.1
  replace h := h.2
  refine a_iadd (pc := 1562) dL_law_1562 ho5 ?_
  have ho6 := h.1
  replace h := h.2
  refine a_sald (pc := 1563) dL_law_1563 ho6.1 ho6.2 ?_
  refine a_saload_n (pc := 1564) dL_law_1564 rfl ?_
  refine a_iload_n (pc := 1565) dL_law_1565 rfl ?_
  refine a_iconst (pc := 1566) dL_law_1566 (by decide) ?_
  have ho7 := h.1
  replace h := h.2
  refine a_iadd (pc := 1567) dL_law_1567 ho7 ?_
  have ho8 := h.1
  replace h := h.2
  refine a_sald (pc := 1568) dL_law_1568 ho8.1 ho8.2 ?_
  refine a_saload_n (pc := 1569) dL_law_1569 rfl ?_
  refine a_iload_n (pc := 1570) dL_law_1570 rfl ?_
  refine a_iconst (pc := 1571) dL_law_1571 (by decide) ?_
  have ho9 := h.1
  replace h := h.2
  refine a_iadd (pc := 1572) dL_law_1572 ho9 ?_
  have ho10 := h.1
  replace h := h.2
  refine a_sald (pc := 1573) dL_law_1573 ho10.1 ho10.2 ?_
  refine p_callV (As := [(0, (xs (l3 + 1).toNat).toInt), (0, (xs (l3 + 2).toNat).toInt), (0, (xs (l3 + 3).toNat).toInt), (0, (xs (l3 + 4).toNat).toInt), (0, (xs (l3 + 5).toNat).toInt)]) (st := []) (st1 := fun r => [(0, r)])  (pc := 1574) dL_law_1574 ml_RL_148 (by decide) s0_0 rfl (by decide) (Nat.le_of_ble_eq_true rfl) rfl (fun _ => rfl) h (fun r11 M12 h => ?_)
  refine a_aload_n (pc := 1577) dL_law_1577 (by decide) rfl ?_
  refine a_saload_n (pc := 1578) dL_law_1578 rfl ?_
  refine a_iload_n (pc := 1579) dL_law_1579 rfl ?_
  refine a_iconst (pc := 1580) dL_law_1580 (by decide) ?_
  refine a_iadd (pc := 1581) dL_law_1581 ho1 ?_
  refine a_sald (pc := 1582) dL_law_1582 ho2.1 ho2.2 ?_
  refine a_saload_n (pc := 1583) dL_law_1583 rfl ?_
  refine a_iload_n (pc := 1584) dL_law_1584 rfl ?_
  refine a_iconst (pc := 1585) dL_law_1585 (by decide) ?_
  refine a_iadd (pc := 1586) dL_law_1586 ho3 ?_
  refine a_sald (pc := 1587) dL_law_1587 ho4.1 ho4.2 ?_
  refine a_saload_n (pc := 1588) dL_law_1588 rfl ?_
  refine a_iload_n (pc := 1589) dL_law_1589 rfl ?_
  refine a_iconst (pc := 1590) dL_law_1590 (by decide) ?_
  refine a_iadd (pc := 1591) dL_law_1591 ho5 ?_
  refine a_sald (pc := 1592) dL_law_1592 ho6.1 ho6.2 ?_
  refine a_saload_n (pc := 1593) dL_law_1593 rfl ?_
  refine a_iload_n (pc := 1594) dL_law_1594 rfl ?_
  refine a_iconst (pc := 1595) dL_law_1595 (by decide) ?_
  refine a_iadd (pc := 1596) dL_law_1596 ho7 ?_
  refine a_sald (pc := 1597) dL_law_1597 ho8.1 ho8.2 ?_
  refine a_saload_n (pc := 1598) dL_law_1598 rfl ?_
  refine a_iload_n (pc := 1599) dL_law_1599 rfl ?_
  refine a_iconst (pc := 1600) dL_law_1600 (by decide) ?_
  refine a_iadd (pc := 1601) dL_law_1601 ho9 ?_
  refine a_sald (pc := 1602) dL_law_1602 ho10.1 ho10.2 ?_
  refine p_callV (As := [(0, (xs (l3 + 1).toNat).toInt), (0, (xs (l3 + 2).toNat).toInt), (0, (xs (l3 + 3).toNat).toInt), (0, (xs (l3 + 4).toNat).toInt), (0, (xs (l3 + 5).toNat).toInt)]) (st := [(0, r11)]) (st1 := fun r => [(0, r), (0, r11)])  (pc := 1603) dL_law_1603 ml_RL_151 (by decide) s0_275 rfl (by decide) (Nat.le_of_ble_eq_true rfl) rfl (fun _ => rfl) h (fun r13 M14 h => ?_)
  refine a_icmp_eq (tgt := 1637) (pc := 1606) dL_law_1606 (by decide) (fun hc15 => ?_) (fun hc15 => ?_)
  · replace h := h.1 hc15
    exact h
  · replace h := h.2 hc15
    refine a_iconst (pc := 1609) dL_law_1609 (by decide) ?_
    exact a_iretz (pc := 1610) dL_law_1610 rfl rfl (Nat.le_of_ble_eq_true rfl) (by decide) ⟨rfl, h⟩
set_option maxRecDepth 100000 in
set_option maxHeartbeats 4000000 in
theorem B_law_1611 {L : Nat} {xs : Nat → Int32} (hL0 : (L : Int) ≤ 2147483647) {l3 : Int} {M : Mem} {Q : Int → Mem → Prop} (h : Calls mX8_image [(2, 0)] S0 M (fun r1 M2 => Calls mX9_image [(2, 275)] S0 M2 (fun r3 M4 => ((r1 = r3 → AWL L xs 1637 [(3, 0), (2, 0), (2, 275), (0, l3)] M4 Q) ∧ (¬ r1 = r3 → Q 0 M4))))) : AWL L xs 1611 [(3, 0), (2, 0), (2, 275), (0, l3)] M Q := by
  refine a_aload_n (pc := 1611) dL_law_1611 (by decide) rfl ?_
  refine p_callV (As := []) (st := []) (st1 := fun r => [(0, r)])  (pc := 1612) dL_law_1612 ml_RL_152 (by decide) s0_0 rfl (by decide) (Nat.le_of_ble_eq_true rfl) rfl (fun _ => rfl) h (fun r1 M2 h => ?_)
  refine a_aload_n (pc := 1615) dL_law_1615 (by decide) rfl ?_
  refine p_callV (As := []) (st := [(0, r1)]) (st1 := fun r => [(0, r), (0, r1)])  (pc := 1616) dL_law_1616 ml_RL_155 (by decide) s0_275 rfl (by decide) (Nat.le_of_ble_eq_true rfl) rfl (fun _ => rfl) h (fun r3 M4 h => ?_)
  refine a_icmp_eq (tgt := 1637) (pc := 1619) dL_law_1619 (by decide) (fun hc5 => ?_) (fun hc5 => ?_)
  · replace h := h.1 hc5
    exact h
  · replace h := h.2 hc5
    refine a_iconst (pc := 1622) dL_law_1622 (by decide) ?_
    exact a_iretz (pc := 1623) dL_law_1623 rfl rfl (Nat.le_of_ble_eq_true rfl) (by decide) ⟨rfl, h⟩
set_option maxRecDepth 100000 in
set_option maxHeartbeats 4000000 in
theorem B_law_1624 {L : Nat} {xs : Nat → Int32} (hL0 : (L : Int) ≤ 2147483647) {l3 : Int} {M : Mem} {Q : Int → Mem → Prop} (h : Calls mX8_undo [(2, 0)] S0 M (fun r1 M2 => Calls mX9_undo [(2, 275)] S0 M2 (fun r3 M4 => ((r1 = r3 → AWL L xs 1637 [(3, 0), (2, 0), (2, 275), (0, l3)] M4 Q) ∧ (¬ r1 = r3 → Q 0 M4))))) : AWL L xs 1624 [(3, 0), (2, 0), (2, 275), (0, l3)] M Q := by
  refine a_aload_n (pc := 1624) dL_law_1624 (by decide) rfl ?_
  refine p_callV (As := []) (st := []) (st1 := fun r => [(0, r)])  (pc := 1625) dL_law_1625 ml_RL_156 (by decide) s0_0 rfl (by decide) (Nat.le_of_ble_eq_true rfl) rfl (fun _ => rfl) h (fun r1 M2 h => ?_)
  refine a_aload_n (pc := 1628) dL_law_1628 (by decide) rfl ?_
  refine p_callV (As := []) (st := [(0, r1)]) (st1 := fun r => [(0, r), (0, r1)])  (pc := 1629) dL_law_1629 ml_RL_159 (by decide) s0_275 rfl (by decide) (Nat.le_of_ble_eq_true rfl) rfl (fun _ => rfl) h (fun r3 M4 h => ?_)
  refine a_icmp_eq (tgt := 1637) (pc := 1632) dL_law_1632 (by decide) (fun hc5 => ?_) (fun hc5 => ?_)
  · replace h := h.1 hc5
    exact h
  · replace h := h.2 hc5
    refine a_iconst (pc := 1635) dL_law_1635 (by decide) ?_
    exact a_iretz (pc := 1636) dL_law_1636 rfl rfl (Nat.le_of_ble_eq_true rfl) (by decide) ⟨rfl, h⟩
set_option maxRecDepth 100000 in
set_option maxHeartbeats 4000000 in
theorem B_law_1637 {L : Nat} {xs : Nat → Int32} (hL0 : (L : Int) ≤ 2147483647) {l3 : Int} {M : Mem} {Q : Int → Mem → Prop} (h : (-2147483648 ≤ l3 + 7 ∧ l3 + 7 ≤ 2147483647) ∧ AWL L xs 18 [(3, 0), (2, 0), (2, 275), (0, l3 + 7)] M Q) : AWL L xs 1637 [(3, 0), (2, 0), (2, 275), (0, l3)] M Q := by
  have ho1 := h.1
  replace h := h.2
  refine a_iinc (ls1 := [(3, 0), (2, 0), (2, 275), (0, l3 + 7)]) (pc := 1637) dL_law_1637 rfl (by decide) (hp1 (t := 2) rfl (by decide)) ho1 rfl ?_
  refine a_goto (tgt := 18) (pc := 1640) dL_law_1640 (by decide) ?_
  exact h
