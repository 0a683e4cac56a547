/-! set, lay, judge -/
def fSet (M : Mem) (l i : Int) : Int := if l < 0 ∨ 3 < l then -1 else if M 274 l = -1 then -11 else if i < 0 ∨ M 274 l ≤ i then -13 else 1
set_option maxHeartbeats 4000000 in
theorem b_set (l i v : Int) : Bo mX8_set mX9_set [(0, l), (0, i), (0, v)] := by
  intro M K ⟨N, hI⟩ hK
  have hS : Sc M (up2 M 275 8 0) := Sc.rf.up scr8
  have hk : ∀ v, K v v (up2 M 275 8 0) := fun v => hK v _ ⟨N, hI.sc hS⟩
  by_cases hl : 0 ≤ l ∧ l < 4
  · have hli := hI.li l hl.1 hl.2
    by_cases hok : 0 ≤ i ∧ i < M 274 l
    · obtain ⟨q1, q2, q3, q4⟩ := hli.resolve_left (by omega)
      refine E_C_set (B_C_set_0 ⟨fun q => absurd q (by omega), fun _ => ⟨fun q => absurd q (by omega), fun _ => ⟨by omega, fun q => absurd q (by omega), fun _ => ⟨fun q => absurd q (by omega), fun _ => ⟨fun q => absurd q (by omega), fun _ => ⟨by omega, ?_⟩⟩⟩⟩⟩⟩)
      have w1 : up2 M (270 + l) i v 296 l = 1 := by rw [up2_ne (by omega)]; exact q1
      have w2 : up2 M (270 + l) i v 297 l = M 274 l := by rw [up2_ne (by omega)]; exact q2.symm
      refine E_R_set (B_R_set_0 ⟨fun q => absurd q (by omega), fun _ => ⟨fun q => absurd q (by omega), fun _ => ⟨by omega, fun _ => ⟨by omega, fun q => absurd q (by omega), fun _ => ⟨fun q => absurd q (by omega), fun _ => ⟨by omega, by omega, by omega, ?_⟩⟩⟩, fun q => absurd q (by omega)⟩⟩⟩)
      refine hK 1 _ ⟨N, hI.lists (fun a j q z1 z2 => ?_) (fun x x0 x1 => ?_)⟩
      · rw [up2_ne (by omega), up2_ni (fun z => q (by unfold scr; omega)), up2_ne (by omega)]
      · have e1 : ∀ b, (b = 296 ∨ b = 297 ∨ b = 274) → up2 (up2 (up2 M (270 + l) i v) 275 8 0) 298 (20 * l + i) v b x = M b x := fun b hb => by rw [up2_ne (by omega), up2_ne (by omega), up2_ne (by omega)]
        rw [e1 296 (by omega), e1 297 (by omega), e1 274 (by omega)]
        rcases hI.li x x0 x1 with q | ⟨p1, p2, p3, p4⟩
        · exact Or.inl q
        · refine Or.inr ⟨p1, p2, p3, fun j j0 j1 => ?_⟩
          rw [up2_ne (by omega), up2_ne (by omega)]
          by_cases e : x = l ∧ j = i
          · rw [up2_at (by omega), up2_at (by omega)]
          · rw [up2_ni (by omega), up2_ni (by omega), up2_ne (by omega), up2_ne (by omega)]
            exact p4 j j0 j1
    · have hr : Calls mX9_set [(2, 275), (0, l), (0, i), (0, v)] S0 M (fun r2 M2 => K (fSet M l i) r2 M2) := by
        have hv : ∀ w, w = fSet M l i → K (fSet M l i) w (up2 M 275 8 0) := fun v h => h ▸ hk _
        refine E_R_set (B_R_set_0 ?_)
        rcases hli with ⟨q1, q2⟩ | ⟨q1, q2, q3, q4⟩
        · rw [q1]
          repeat' (first | refine And.intro ?_ ?_ | refine imp_i (fun _ => ?_))
          all_goals (first | omega | exact hv _ (by unfold fSet; (repeat' split) <;> omega))
        · rw [q1, ← q2]
          repeat' (first | refine And.intro ?_ ?_ | refine imp_i (fun _ => ?_))
          all_goals (first | omega | exact hv _ (by unfold fSet; (repeat' split) <;> omega))
      have hv : ∀ w, w = fSet M l i → Calls mX9_set [(2, 275), (0, l), (0, i), (0, v)] S0 M (fun r2 M2 => K w r2 M2) := fun v h => h ▸ hr
      refine E_C_set (B_C_set_0 ?_)
      repeat' (first | refine And.intro ?_ ?_ | refine imp_i (fun _ => ?_))
      all_goals (first | omega | exact hv _ (by unfold fSet; (repeat' split) <;> omega))
  · refine E_C_set (B_C_set_0 ?_)
    have hr : Calls mX9_set [(2, 275), (0, l), (0, i), (0, v)] S0 M (fun r2 M2 => K (-1) r2 M2) := by
      refine E_R_set (B_R_set_0 ?_)
      repeat' (first | refine And.intro ?_ ?_ | refine imp_i (fun _ => ?_))
      all_goals (first | omega | exact hk _)
    repeat' (first | refine And.intro ?_ ?_ | refine imp_i (fun _ => ?_))
    all_goals (first | omega | exact hr)
def fLr (M : Mem) (l fr at_ r : Int) : Int := if l < 0 ∨ 3 < l ∨ fr < 0 ∨ 11 < fr then -1 else if at_ < 0 ∨ 1999 < at_ ∨ r < 0 ∨ 6 < r then -2 else if M 274 l = -1 then -11 else 0
set_option maxHeartbeats 4000000 in
theorem c_listRefusal {M : Mem} {Q : Int → Mem → Prop} {l fr at_ r : Int} (hQ : Q (fLr M l fr at_ r) M) : Calls mX8_listRefusal [(2, 0), (0, l), (0, fr), (0, at_), (0, r)] S0 M Q := by
  have hv : ∀ w, w = fLr M l fr at_ r → Q w M := fun v h => h ▸ hQ
  refine E_C_listRefusal (B_C_listRefusal_0 ?_)
  repeat' (first | refine And.intro ?_ ?_ | refine imp_i (fun _ => ?_))
  all_goals (first | omega | exact hv _ (by unfold fLr; (repeat' split) <;> omega))
set_option maxHeartbeats 4000000 in
theorem r_wrongLay {M : Mem} {Q : Int → Mem → Prop} {l fr at_ r : Int} (hl : LisI M) (hQ : Q (fLr M l fr at_ r) M) : Calls mX9_wrongLay [(2, 275), (0, l), (0, fr), (0, at_), (0, r)] S0 M Q := by
  have hv : ∀ w, w = fLr M l fr at_ r → Q w M := fun v h => h ▸ hQ
  refine E_R_wrongLay (B_R_wrongLay_0 ⟨fun q => hv _ ?_, fun q => ⟨fun q2 => hv _ ?_, fun q2 => r_wrong ⟨fun q3 => ⟨by omega, fun q4 => hv _ ?_, fun q4 => hv _ ?_⟩, fun q3 => hv _ ?_⟩⟩⟩)
  · unfold fLr
    rw [if_pos (by omega)]
  · unfold fLr
    rw [if_pos (by omega)]
  · have := rfz_cases fr at_ fr r
    have := hl l (by omega) (by omega)
    unfold fLr
    rw [if_neg (by omega), if_neg (by omega), if_pos (by omega)]
  · have := rfz_cases fr at_ fr r
    have := hl l (by omega) (by omega)
    unfold fLr
    rw [if_neg (by omega), if_neg (by omega), if_neg (by omega)]
  · unfold fLr
    unfold rfz at q3 ⊢
    (repeat' split at q3) <;> (repeat' split) <;> omega
def tld (N : Net) (fr at_ r s : Int) : Int := if BS N fr at_ r s = 10000 then -1 else BS N fr at_ r s
/-- a list's places have been laid from i on -/
def LyC (N : Net) (M : Mem) (l i n fr at_ r : Int) (M1 : Mem) : Prop := (∀ a j, ¬ scr a j → ¬ (a = 270 + l ∧ 0 ≤ i ∧ i ≤ j ∧ j < i + 12) → M1 a j = M a j) ∧ (∀ s, 0 ≤ s → s < 12 → 0 ≤ i → i + s < n → M1 (270 + l) (i + s) = tld N fr at_ r s)
def fLay (n i : Int) : Int := if 0 ≤ i ∧ i + 12 ≤ n then 12 else -13
set_option maxHeartbeats 4000000 in
theorem c_lay {N : Net} {M : Mem} {Q : Int → Mem → Prop} {l i fr at_ r : Int} (hI : IN N M) (h0 : fLr M l fr at_ r = 0) (hQ : ∀ M1, LyC N M l i (M 274 l) fr at_ r M1 → Q (fLay (M 274 l) i) M1) : Calls mX8_lay [(2, 0), (0, l), (0, i), (0, fr), (0, at_), (0, r)] S0 M Q := by
  have hb : (0 ≤ l ∧ l < 4 ∧ 0 ≤ fr ∧ fr < 12) ∧ (0 ≤ at_ ∧ at_ ≤ 1999 ∧ 0 ≤ r ∧ r ≤ 6) ∧ M 274 l ≠ -1 := by
    unfold fLr at h0
    (repeat' split at h0) <;> omega
  obtain ⟨⟨l0, l1, f0, f1⟩, ⟨a0, a1, r0, r1⟩, hn⟩ := hb
  obtain ⟨-, -, q3, -⟩ := (hI.li l l0 l1).resolve_left (by omega)
  refine E_C_lay (B_C_lay_0 (c_listRefusal ⟨fun _ => ?_, fun q => absurd h0 q⟩))
  refine c_run0 hI (by omega) (by omega) (fun M1 hs hb => ?_)
  have key : ∀ k : Nat, k ≤ 12 → ∀ s M2, s = (k : Int) → (∀ a j, ¬ (a = 270 + l) → M2 a j = M1 a j) → (∀ j, ¬ (0 ≤ i ∧ i ≤ j ∧ j < i + 12) → M2 (270 + l) j = M1 (270 + l) j) → (∀ x, 0 ≤ x → x < s → (0 ≤ i ∧ i + x < M 274 l) ∧ M2 (270 + l) (i + x) = tld N fr at_ r x) → AW mX8_lay 35 [(2, 0), (0, l), (0, i), (9, 0), (9, 0), (0, r), (9, 0), (0, s)] M2 Q := by
    have fin : ∀ M2 : Mem, (∀ a j, ¬ (a = 270 + l) → M2 a j = M1 a j) → (∀ j, ¬ (0 ≤ i ∧ i ≤ j ∧ j < i + 12) → M2 (270 + l) j = M1 (270 + l) j) → ∀ a j, ¬ scr a j → ¬ (a = 270 + l ∧ 0 ≤ i ∧ i ≤ j ∧ j < i + 12) → M2 a j = M a j := by
      intro M2 g1 g2 a j q q2
      by_cases e : a = 270 + l
      · rw [e, g2 j (by omega), ← e]
        exact hs a j q
      · rw [g1 a j e]
        exact hs a j q
    refine up_ind _ ?_ ?_
    · intro s M2 hi g1 g2 g3
      refine B_C_lay_35 ⟨fun _ => ?_, fun q => absurd (by omega) q⟩
      have h11 := (g3 11 (by omega) (by omega)).1
      have e : fLay (M 274 l) i = s := by unfold fLay; rw [if_pos (by omega)]; omega
      rw [← e]
      exact hQ M2 ⟨fin M2 g1 g2, fun x x0 x1 _ _ => (g3 x x0 (by omega)).2⟩
    · intro k hk ih s M2 hi g1 g2 g3
      have w : M2 274 l = M 274 l := by rw [g1 _ _ (by omega)]; exact hs _ _ (by unfold scr; omega)
      have wb : M2 (231 + r) s = BS N fr at_ r s := by rw [g1 _ _ (by omega)]; exact hb r s r0 (by omega) (by omega) (by omega)
      refine B_C_lay_35 ⟨fun q => absurd q (by omega), fun _ => ?_⟩
      rw [w, wb]
      by_cases hin : 0 ≤ i ∧ i + s < M 274 l
      · have go : ∀ v, v = tld N fr at_ r s → AW mX8_lay 35 [(2, 0), (0, l), (0, i), (9, 0), (9, 0), (0, r), (9, 0), (0, s + 1)] (up2 M2 (270 + l) (i + s) v) Q := by
          intro v hv
          refine ih _ _ (by omega) (fun a j q => ?_) (fun j q => ?_) (fun x x0 x1 => ?_)
          · rw [up2_ne (by omega)]
            exact g1 a j q
          · rw [up2_ni (by omega)]
            exact g2 j q
          · by_cases e : x = s
            · rw [up2_at (by omega), e]
              exact ⟨hin, hv⟩
            · rw [up2_ni (by omega)]
              exact g3 x x0 (by omega)
        refine ⟨fun q => absurd q (by omega), fun _ => ⟨fun q => absurd q (by omega), fun _ => ⟨fun q => absurd q (by omega), fun _ => ⟨by omega, fun q => absurd q (by omega), fun _ => ⟨by omega, fun q => absurd q (by omega), fun _ => ⟨by omega, by omega, by omega, fun q => ⟨by omega, by omega, go _ ?_⟩, fun q => ⟨by omega, by omega, go _ ?_⟩⟩⟩⟩⟩⟩⟩
        · unfold tld
          rw [if_neg q]
        · unfold tld
          rw [if_pos q]
      · have go : Q (-13) M2 := by
          have e : fLay (M 274 l) i = -13 := by unfold fLay; rw [if_neg (by omega)]
          rw [← e]
          refine hQ M2 ⟨fin M2 g1 g2, fun x x0 x1 i0 i1 => (g3 x x0 (by omega)).2⟩
        repeat' (first | refine And.intro ?_ ?_ | refine imp_i (fun _ => ?_))
        all_goals (first | omega | exact go)
  exact key 0 (Nat.zero_le _) 0 M1 rfl (fun _ _ _ => rfl) (fun _ _ => rfl) (fun x x0 x1 => absurd x1 (by omega))
def LyR (N : Net) (M : Mem) (l i n fr at_ r : Int) (M1 : Mem) : Prop := (∀ a j, ¬ scr a j → ¬ (a = 298 ∧ 0 ≤ i ∧ 20 * l + i ≤ j ∧ j < 20 * l + i + 12 ∧ j < 20 * l + n) → M1 a j = M a j) ∧ (∀ s, 0 ≤ s → s < 12 → 0 ≤ i → i + s < n → M1 298 (20 * l + (i + s)) = tld N fr at_ r s)
set_option maxHeartbeats 4000000 in
theorem r_lay {N : Net} {M : Mem} {Q : Int → Mem → Prop} {l i fr at_ r n : Int} (hg : Good N) (hN : RH N M) (a4 : M 275 9 = -1) (a5 : M 275 10 = -1) (hL : ∀ Q2 : Int → Mem → Prop, Q2 0 (up2 M 275 8 0) → Calls mX9_wrongLay [(2, 275), (0, l), (0, fr), (0, at_), (0, r)] S0 (up2 M 275 8 0) Q2) (hi32 : -2147483648 ≤ i ∧ i ≤ 2147483647) (l0 : 0 ≤ l) (l1 : l < 4) (f0 : 0 ≤ fr) (f1 : fr < 12) (a0 : 0 ≤ at_) (a1 : at_ ≤ 1999) (r0 : 0 ≤ r) (r1 : r ≤ 6) (hn : M 297 l = n) (hn2 : 0 ≤ n ∧ n ≤ 20) (hQ : ∀ M1, LyR N M l i n fr at_ r M1 → Q (fLay n i) M1) : Calls mX9_lay [(2, 275), (0, l), (0, i), (0, fr), (0, at_), (0, r)] S0 M Q := by
  refine E_R_lay (B_R_lay_0 (hL _ ⟨fun _ => ?_, fun q => absurd (by omega) q⟩))
  have hS : Sc M (up2 M 275 8 0) := Sc.rf.up scr8
  have hR : RH N (up2 M 275 8 0) := hN.keep (fun a i q => hS a i (by unfold scr; omega))
  refine r_layRounds (ll := -1) (lt := -1) (sh := -1) hg hR (fun l t l0 t0 t1 => by rw [up2_ni (by omega), a4]; omega) (by rw [up2_ni (by omega), a5]) (by omega) f0 f1 a0 (by omega) (fun M1 hf _ hro => ?_)
  have hs : Sc M M1 := hS.tr (fun a i q => hf a i (by unfold scr at q; omega) (by unfold scr at q; omega) (by unfold scr at q; omega))
  have hb : ∀ s, 0 ≤ s → s < 12 → M1 284 (12 * r + s) = upv (BS N fr at_ r s) := fun s s0 s1 => by
    have := hro.2 r.toNat (by omega) s s0 s1
    rw [show ((r.toNat : Nat) : Int) = r by omega] at this
    exact this
  have key : ∀ k : Nat, k ≤ 12 → ∀ s M2, s = (k : Int) → (∀ a j, ¬ (a = 298 ∧ 0 ≤ i ∧ 20 * l + i ≤ j ∧ j < 20 * l + i + 12 ∧ j < 20 * l + n) → M2 a j = M1 a j) → (∀ x, 0 ≤ x → x < s → (0 ≤ i ∧ i + x < n) ∧ M2 298 (20 * l + (i + x)) = tld N fr at_ r x) → AW mX9_lay 39 [(2, 275), (0, l), (0, i), (9, 0), (9, 0), (0, r), (0, s)] M2 Q := by
    have fin : ∀ M2 : Mem, (∀ a j, ¬ (a = 298 ∧ 0 ≤ i ∧ 20 * l + i ≤ j ∧ j < 20 * l + i + 12 ∧ j < 20 * l + n) → M2 a j = M1 a j) → ∀ a j, ¬ scr a j → ¬ (a = 298 ∧ 0 ≤ i ∧ 20 * l + i ≤ j ∧ j < 20 * l + i + 12 ∧ j < 20 * l + n) → M2 a j = M a j := fun M2 g1 a j q q2 => (g1 a j q2).trans (hs a j q)
    refine up_ind _ ?_ ?_
    · intro s M2 hi g1 g3
      refine B_R_lay_39 ⟨fun _ => ?_, fun q => absurd (by omega) q⟩
      have h11 := (g3 11 (by omega) (by omega)).1
      have e : fLay n i = 12 := by unfold fLay; rw [if_pos (by omega)]
      rw [← e]
      exact hQ M2 ⟨fin M2 g1, fun x x0 x1 _ _ => (g3 x x0 (by omega)).2⟩
    · intro k hk ih s M2 hi g1 g3
      have w : M2 297 l = n := by rw [g1 _ _ (by omega), hs _ _ (by unfold scr; omega)]; exact hn
      have wb : M2 284 (12 * r + s) = upv (BS N fr at_ r s) := by rw [g1 _ _ (by omega)]; exact hb s (by omega) (by omega)
      have hB : 0 ≤ BS N fr at_ r s ∧ BS N fr at_ r s ≤ 10000 := bst_bd hg (by omega) (by omega) (by omega) _
      refine B_R_lay_39 ⟨fun q => absurd q (by omega), fun _ => ?_⟩
      rw [w, wb]
      by_cases hin : 0 ≤ i ∧ i + s < n
      · have go : ∀ v, v = tld N fr at_ r s → AW mX9_lay 39 [(2, 275), (0, l), (0, i), (9, 0), (9, 0), (0, r), (0, s + 1)] (up2 M2 298 (((20 * l) + i) + s) v) Q := by
          intro v hv
          refine ih _ _ (by omega) (fun a j q => ?_) (fun x x0 x1 => ?_)
          · rw [up2_ni (by omega)]
            exact g1 a j q
          · by_cases e : x = s
            · rw [up2_at (by omega), e]
              exact ⟨hin, hv⟩
            · rw [up2_ni (by omega)]
              exact g3 x x0 (by omega)
        refine ⟨fun q => absurd q (by omega), fun _ => ⟨by omega, by omega, fun _ => ⟨by omega, by omega, by omega, by omega, by omega, by omega, fun q => ⟨by omega, by omega, go _ ?_⟩, fun q => ⟨by omega, by omega, go _ ?_⟩⟩, fun q => absurd (by omega) q⟩⟩
        · unfold tld
          unfold upv at q ⊢
          split at q
          · omega
          · rename_i e
            rw [if_neg e, if_neg e]
        · unfold tld
          unfold upv at q
          split at q
          · rename_i e
            rw [if_pos e]
          · omega
      · have go : Q (-13) M2 := by
          have e : fLay n i = -13 := by unfold fLay; rw [if_neg (by omega)]
          rw [← e]
          refine hQ M2 ⟨fin M2 g1, fun x x0 x1 i0 i1 => (g3 x x0 (by omega)).2⟩
        refine ⟨fun q => go, fun _ => ⟨by omega, by omega, fun q => absurd q (by omega), fun _ => go⟩⟩
  exact key 0 (Nat.zero_le _) 0 M1 rfl (fun _ _ _ => rfl) (fun x x0 x1 => absurd x1 (by omega))
set_option maxHeartbeats 4000000 in
theorem b_lay (l i fr at_ r : Int) (hi32 : -2147483648 ≤ i ∧ i ≤ 2147483647) : Bo mX8_lay mX9_lay [(0, l), (0, i), (0, fr), (0, at_), (0, r)] := by
  intro M K ⟨N, hI⟩ hK
  have hS : Sc M (up2 M 275 8 0) := Sc.rf.up scr8
  have hL : fLr (up2 M 275 8 0) l fr at_ r = fLr M l fr at_ r := by unfold fLr; rw [up2_ne (by omega)]
  by_cases h0 : fLr M l fr at_ r = 0
  · have hb : (0 ≤ l ∧ l < 4 ∧ 0 ≤ fr ∧ fr < 12) ∧ (0 ≤ at_ ∧ at_ ≤ 1999 ∧ 0 ≤ r ∧ r ≤ 6) ∧ M 274 l ≠ -1 := by
      have h0 := h0
      unfold fLr at h0
      (repeat' split at h0) <;> omega
    obtain ⟨⟨l0, l1, f0, f1⟩, ⟨a0, a1, r0, r1⟩, hn⟩ := hb
    obtain ⟨q1, q2, q3, q4⟩ := (hI.li l l0 l1).resolve_left (by omega)
    obtain ⟨-, -, -, a4, a5⟩ := hI.lo
    refine c_lay hI h0 (fun M1 hy => ?_)
    have k1 : ∀ a j, ¬ scr a j → ¬ (270 ≤ a ∧ a ≤ 273) → M1 a j = M a j := fun a j q q2 => hy.1 a j q (by omega)
    have hl1 : ∀ Q2 : Int → Mem → Prop, Q2 0 (up2 M1 275 8 0) → Calls mX9_wrongLay [(2, 275), (0, l), (0, fr), (0, at_), (0, r)] S0 (up2 M1 275 8 0) Q2 := by
      intro Q2 h2
      refine E_R_wrongLay (B_R_wrongLay_0 ⟨fun q => absurd q (by omega), fun _ => ⟨fun q => absurd q (by omega), fun _ => r_wrong ?_⟩⟩)
      have e : rfz fr at_ fr r = 0 := by
        have := rfz_cases fr at_ fr r
        omega
      have e2 : up2 M1 275 8 0 296 l = 1 := by rw [up2_ne (by omega), k1 _ _ (by unfold scr; omega) (by omega)]; exact q1
      rw [e]
      exact ⟨fun _ => ⟨by omega, fun q => absurd q (by omega), fun _ => h2⟩, fun q => absurd (by omega) q⟩
    refine r_lay hI.g (hI.r.keep (fun a i q => k1 a i (by unfold scr; omega) (by omega))) (by rw [k1 _ _ (by unfold scr; omega) (by omega)]; exact a4) (by rw [k1 _ _ (by unfold scr; omega) (by omega)]; exact a5) hl1 hi32 l0 l1 f0 f1 a0 a1 r0 r1 (n := M 274 l) (by rw [k1 _ _ (by unfold scr; omega) (by omega)]; exact q2.symm) (by omega) (fun M2 hy2 => hK _ M2 ⟨N, ?_⟩)
    refine hI.lists (fun a j q z1 z2 => ?_) (fun x x0 x1 => ?_)
    · rw [hy2.1 a j q (by omega)]
      exact k1 a j q (by omega)
    · have e1 : ∀ b, (b = 296 ∨ b = 297 ∨ b = 274) → M2 b x = M b x := fun b hb => by rw [hy2.1 b x (by unfold scr; omega) (by omega)]; exact k1 b x (by unfold scr; omega) (by omega)
      rw [e1 296 (by omega), e1 297 (by omega), e1 274 (by omega)]
      rcases hI.li x x0 x1 with q | ⟨p1, p2, p3, p4⟩
      · exact Or.inl q
      · refine Or.inr ⟨p1, p2, p3, fun j j0 j1 => ?_⟩
        rw [hy2.1 (270 + x) j (by unfold scr; omega) (by omega)]
        by_cases e : x = l ∧ 0 ≤ i ∧ i ≤ j ∧ j < i + 12
        · obtain ⟨e, e2, e3, e4⟩ := e
          rw [e] at j1 ⊢
          have h1 := hy.2 (j - i) (by omega) (by omega) e2 (by omega)
          have h2 := hy2.2 (j - i) (by omega) (by omega) e2 (by omega)
          rw [show i + (j - i) = j by omega] at h1 h2
          rw [h1, h2]
        · rw [hy.1 (270 + x) j (by unfold scr; omega) (by omega), hy2.1 298 (20 * x + j) (by unfold scr; omega) (by omega), k1 298 _ (by unfold scr; omega) (by omega)]
          exact p4 j j0 j1
  · refine E_C_lay (B_C_lay_0 (c_listRefusal ⟨fun q => absurd q h0, fun _ => ?_⟩))
    have neg : fLr M l fr at_ r < 0 := by
      unfold fLr at h0 ⊢
      (repeat' split) <;> (repeat' split at h0) <;> omega
    refine E_R_lay (B_R_lay_0 (r_wrongLay (hI.sc hS).li ⟨fun q => absurd q (by omega), fun _ => r_wrongLay (hI.sc hS).li ?_⟩))
    rw [hL]
    exact hK _ _ ⟨N, hI.sc hS⟩
-- judge
def jdF (N : Net) (n i fr at_ r : Int) (L : Int → Int) : Nat → Int → Int
  | 0, _ => -5
  | k + 1, s => if ¬ (0 ≤ i ∧ i + s < n) then 100 + s else if L (i + s) = tld N fr at_ r s then jdF N n i fr at_ r L k (s + 1) else s
theorem jdF_s {N : Net} {n i fr at_ r : Int} {L : Int → Int} (k : Nat) (s : Int) : jdF N n i fr at_ r L (k + 1) s = if ¬ (0 ≤ i ∧ i + s < n) then 100 + s else if L (i + s) = tld N fr at_ r s then jdF N n i fr at_ r L k (s + 1) else s := rfl
def fJudge (N : Net) (M : Mem) (l i fr at_ r : Int) : Int := if fLr M l fr at_ r = 0 then jdF N (M 274 l) i fr at_ r (fun j => M (270 + l) j) 12 0 else fLr M l fr at_ r
set_option maxHeartbeats 4000000 in
theorem c_judge {N : Net} {M : Mem} {Q : Int → Mem → Prop} {l i fr at_ r : Int} (hI : IN N M) (hQ : ∀ M1, Sc M M1 → Q (fJudge N M l i fr at_ r) M1) : Calls mX8_judge [(2, 0), (0, l), (0, i), (0, fr), (0, at_), (0, r)] S0 M Q := by
  unfold fJudge at hQ
  refine E_C_judge (B_C_judge_0 (c_listRefusal ⟨fun h0 => ?_, fun q => ?_⟩))
  rotate_left
  · rw [if_neg q] at hQ
    exact hQ M Sc.rf
  rw [if_pos h0] at hQ
  have hb : (0 ≤ l ∧ l < 4 ∧ 0 ≤ fr ∧ fr < 12) ∧ (0 ≤ at_ ∧ at_ ≤ 1999 ∧ 0 ≤ r ∧ r ≤ 6) ∧ M 274 l ≠ -1 := by
    unfold fLr at h0
    (repeat' split at h0) <;> omega
  obtain ⟨⟨l0, l1, f0, f1⟩, ⟨a0, a1, r0, r1⟩, hn⟩ := hb
  obtain ⟨-, -, q3, -⟩ := (hI.li l l0 l1).resolve_left (by omega)
  refine c_run0 hI (by omega) (by omega) (fun M1 hs hb => ?_)
  have w : M1 274 l = M 274 l := hs _ _ (by unfold scr; omega)
  have key : ∀ k : Nat, k ≤ 12 → ∀ s, s = (k : Int) → Q (jdF N (M 274 l) i fr at_ r (fun j => M (270 + l) j) (12 - k) s) M1 → AW mX8_judge 35 [(2, 0), (0, l), (0, i), (9, 0), (9, 0), (0, r), (9, 0), (0, s)] M1 Q := by
    refine up_ind _ ?_ ?_
    · intro s hi hq
      exact B_C_judge_35 ⟨fun _ => hq, fun q => absurd (by omega) q⟩
    · intro k hk ih s hi hq
      rw [show 12 - k = (12 - (k + 1)) + 1 by omega, jdF_s] at hq
      refine B_C_judge_35 ⟨fun q => absurd q (by omega), fun _ => ?_⟩
      rw [w, hb r s r0 (by omega) (by omega) (by omega)]
      by_cases hin : 0 ≤ i ∧ i + s < M 274 l
      · rw [if_neg (fun z => z hin)] at hq
        have e2 : M1 (270 + l) (i + s) = M (270 + l) (i + s) := hs _ _ (by unfold scr; omega)
        rw [e2]
        refine ⟨fun q => absurd q (by omega), fun _ => ⟨fun q => absurd q (by omega), fun _ => ⟨fun q => absurd q (by omega), fun _ => ⟨by omega, fun q => absurd q (by omega), fun _ => ⟨by omega, fun q => absurd q (by omega), fun _ => ⟨by omega, by omega, by omega, by omega, fun q => ⟨fun z => ⟨by omega, ih _ (by omega) ?_⟩, fun z => ?_⟩, fun q => ⟨fun z => ⟨by omega, ih _ (by omega) ?_⟩, fun z => ?_⟩⟩⟩⟩⟩⟩⟩
        · rw [if_pos (by unfold tld; rw [if_neg q]; exact z)] at hq
          exact hq
        · rw [if_neg (by unfold tld; rw [if_neg q]; exact z)] at hq
          exact hq
        · rw [if_pos (by unfold tld; rw [if_pos q]; exact z)] at hq
          exact hq
        · rw [if_neg (by unfold tld; rw [if_pos q]; exact z)] at hq
          exact hq
      · rw [if_pos hin] at hq
        repeat' (first | refine And.intro ?_ ?_ | refine imp_i (fun _ => ?_))
        all_goals (first | omega | exact hq)
  exact key 0 (Nat.zero_le _) 0 rfl (hQ M1 hs)
set_option maxHeartbeats 4000000 in
theorem r_judge {N : Net} {M : Mem} {Q : Int → Mem → Prop} {l i fr at_ r : Int} (hI : IN N M) (hi32 : -2147483648 ≤ i ∧ i ≤ 2147483647) (hQ : ∀ M1, Sc M M1 → Q (fJudge N M l i fr at_ r) M1) : Calls mX9_judge [(2, 275), (0, l), (0, i), (0, fr), (0, at_), (0, r)] S0 M Q := by
  unfold fJudge at hQ
  have hS : Sc M (up2 M 275 8 0) := Sc.rf.up scr8
  have hL : fLr (up2 M 275 8 0) l fr at_ r = fLr M l fr at_ r := by unfold fLr; rw [up2_ne (by omega)]
  have neg : fLr M l fr at_ r = 0 ∨ fLr M l fr at_ r < 0 := by
    unfold fLr
    (repeat' split) <;> omega
  refine E_R_judge (B_R_judge_0 (r_wrongLay (hI.sc hS).li ?_))
  rw [hL]
  refine ⟨fun h0 => ?_, fun q => r_wrongLay (hI.sc hS).li ?_⟩
  rotate_left
  · rw [hL]
    rw [if_neg (by omega)] at hQ
    exact hQ _ hS
  rw [if_pos (by omega)] at hQ
  have h0 : fLr M l fr at_ r = 0 := by omega
  have hb : (0 ≤ l ∧ l < 4 ∧ 0 ≤ fr ∧ fr < 12) ∧ (0 ≤ at_ ∧ at_ ≤ 1999 ∧ 0 ≤ r ∧ r ≤ 6) ∧ M 274 l ≠ -1 := by
    unfold fLr at h0
    (repeat' split at h0) <;> omega
  obtain ⟨⟨l0, l1, f0, f1⟩, ⟨a0, a1, r0, r1⟩, hn⟩ := hb
  obtain ⟨q1, q2, q3, q4⟩ := (hI.li l l0 l1).resolve_left (by omega)
  refine r_rounds0 (hI.sc hS) f0 f1 (by omega) (fun M1 hs _ hb _ => ?_)
  have hs2 := hS.tr hs
  have w : M1 297 l = M 274 l := by rw [hs2 _ _ (by unfold scr; omega)]; exact q2.symm
  have key : ∀ k : Nat, k ≤ 12 → ∀ s, s = (k : Int) → Q (jdF N (M 274 l) i fr at_ r (fun j => M (270 + l) j) (12 - k) s) M1 → AW mX9_judge 39 [(2, 275), (0, l), (0, i), (9, 0), (9, 0), (0, r), (0, s)] M1 Q := by
    refine up_ind _ ?_ ?_
    · intro s hi hq
      exact B_R_judge_39 ⟨fun _ => hq, fun q => absurd (by omega) q⟩
    · intro k hk ih s hi hq
      have hB : 0 ≤ BS N fr at_ r s ∧ BS N fr at_ r s ≤ 10000 := bst_bd hI.g (by omega) (by omega) (by omega) _
      rw [show 12 - k = (12 - (k + 1)) + 1 by omega, jdF_s] at hq
      refine B_R_judge_39 ⟨fun q => absurd q (by omega), fun _ => ?_⟩
      rw [w, hb r s r0 (by omega) (by omega) (by omega)]
      by_cases hin : 0 ≤ i ∧ i + s < M 274 l
      · rw [if_neg (fun z => z hin)] at hq
        have e2 : M1 298 (((20 * l) + i) + s) = M (270 + l) (i + s) := by
          rw [hs2 _ _ (by unfold scr; omega), q4 (i + s) (by omega) (by omega)]
          rw [show 20 * l + i + s = 20 * l + (i + s) by omega]
        rw [e2]
        refine ⟨fun q => absurd q (by omega), fun _ => ⟨by omega, by omega, fun _ => ⟨by omega, by omega, by omega, by omega, by omega, by omega, by omega, fun q => ⟨fun z => ⟨by omega, ih _ (by omega) ?_⟩, fun z => ?_⟩, fun q => ⟨fun z => ⟨by omega, ih _ (by omega) ?_⟩, fun z => ?_⟩⟩, fun q => absurd (by omega) q⟩⟩
        all_goals (unfold upv at q)
        · have e : BS N fr at_ r s ≠ 10000 := by split at q <;> omega
          rw [if_pos (by unfold tld; rw [if_neg e, z]; unfold upv; rw [if_neg e])] at hq
          exact hq
        · have e : BS N fr at_ r s ≠ 10000 := by split at q <;> omega
          rw [if_neg (by unfold tld; rw [if_neg e]; unfold upv at z; rw [if_neg e] at z; exact z)] at hq
          exact hq
        · have e : BS N fr at_ r s = 10000 := by split at q <;> omega
          rw [if_pos (by unfold tld; rw [if_pos e]; exact z)] at hq
          exact hq
        · have e : BS N fr at_ r s = 10000 := by split at q <;> omega
          rw [if_neg (by unfold tld; rw [if_pos e]; exact z)] at hq
          exact hq
      · rw [if_pos hin] at hq
        refine ⟨fun q => ⟨by omega, hq⟩, fun _ => ⟨by omega, by omega, fun q => absurd q (by omega), fun _ => ⟨by omega, hq⟩⟩⟩
  exact key 0 (Nat.zero_le _) 0 rfl (hQ M1 hs2)
