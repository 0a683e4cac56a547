/-! LISTS -/
theorem up2_ni {M : Mem} {a i v b j : Int} (h : ¬ (b = a ∧ j = i)) : up2 M a i v b j = M b j := by
  unfold up2
  rw [if_neg h]
theorem up2_at {M : Mem} {a i v b j : Int} (h : b = a ∧ j = i) : up2 M a i v b j = v := by
  unfold up2
  rw [if_pos h]
theorem c_fill20 {M : Mem} {Q : Int → Mem → Prop} {a v : Int} (hA : isA a 20) (hQ : ∀ M1, (∀ b j, ¬ (b = a) → M1 b j = M b j) → (∀ j, 0 ≤ j → j < 20 → M1 a j = v) → (∀ j, j < 0 ∨ 20 ≤ j → M1 a j = M a j) → Q 0 M1) : Calls mJ7_fill_53178 [(2, a), (0, v)] S0 M Q := by
  refine E_Arrays_fill_2 (B_Arrays_fill_2_0 hA ?_)
  have key : ∀ k : Nat, k ≤ 20 → ∀ i M1, i = (k : Int) → (∀ b j, ¬ (b = a) → M1 b j = M b j) → (∀ j, 0 ≤ j → j < i → M1 a j = v) → (∀ j, j < 0 ∨ i ≤ j → M1 a j = M a j) → AW mJ7_fill_53178 5 [(2, a), (0, v), (0, i), (0, 20)] M1 Q := by
    refine up_ind _ ?_ ?_
    · intro i M1 hi h1 h2 h3
      exact B_Arrays_fill_2_5 hA ⟨fun _ => hQ M1 h1 (fun j j0 j1 => h2 j j0 (by omega)) (fun j jj => h3 j (by omega)), fun q => absurd (by omega) q⟩
    · intro k hk ih i M1 hi h1 h2 h3
      refine B_Arrays_fill_2_5 hA ⟨fun q => absurd q (by omega), fun _ => ⟨by omega, by omega, ih _ _ (by omega) (fun b j q => ?_) (fun j j0 j1 => ?_) (fun j jj => ?_)⟩⟩
      · rw [up2_ne q]
        exact h1 b j q
      · unfold up2
        by_cases e : j = i
        · rw [if_pos ⟨rfl, e⟩]
        · rw [if_neg (fun z => e z.2)]
          exact h2 j j0 (by omega)
      · unfold up2
        rw [if_neg (by omega)]
        exact h3 j (by omega)
  exact key 0 (Nat.zero_le _) 0 M rfl (fun _ _ _ => rfl) (fun j j0 j1 => absurd j1 (by omega)) (fun _ _ => rfl)

/-- the lists alone have changed -/
theorem IN.lists {N : Net} {M M1 : Mem} (h : IN N M) (hs : ∀ a i, ¬ scr a i → ¬ (270 ≤ a ∧ a ≤ 274) → ¬ (296 ≤ a ∧ a ≤ 298) → M1 a i = M a i) (hl : LisI M1) : IN N M1 := by
  obtain ⟨hg, hc, hr, ⟨a1, a2, a3, a4, a5⟩, ht, hp, -, hi⟩ := h
  refine ⟨hg, hc.keep hg (fun a i q1 q2 => hs a i (by unfold scr; omega) (by omega) (by omega)), hr.keep (fun a i q => hs a i (by unfold scr; omega) (by omega) (by omega)), ⟨?_, ?_, ?_, ?_, ?_⟩, ht.keep (fun a i q => hs a i (by unfold scr; omega) (by omega) (by omega)), hp.keep (fun a i q => hs a i (by unfold scr; omega) (by omega) (by omega)), hl, hi.keep (hs _ _ (by unfold scr; omega) (by omega) (by omega)) (hs _ _ (by unfold scr; omega) (by omega) (by omega)) (fun a i q1 q2 => hs a i (by unfold scr; omega) (by omega) (by omega)) (fun i => hs _ _ (by unfold scr; omega) (by omega) (by omega))⟩
  all_goals (rw [hs _ _ (by unfold scr; omega) (by omega) (by omega)]; assumption)
/-- what the two of a call do: the answers are the same, what holds between the calls holds -/
def Bo (cm rm : MD) (as : List AV) : Prop := ∀ (M : Mem) (K : Int → Int → Mem → Prop), Inv M → (∀ r M1, Inv M1 → K r r M1) → Calls cm ((2, 0) :: as) S0 M (fun r M1 => Calls rm ((2, 275) :: as) S0 M1 (fun r2 M2 => K r r2 M2))
def fList (l n : Int) : Int := if l < 0 ∨ 3 < l then -1 else if 20 < n then -2 else if n < 0 then -14 else 1
set_option maxHeartbeats 4000000 in
theorem b_list (l n : Int) : Bo mX8_list mX9_list [(0, l), (0, n)] := by
  intro M K ⟨N, hI⟩ hK
  have hS : Sc M (up2 M 275 8 0) := Sc.rf.up scr8
  have hk : ∀ v, K v v (up2 M 275 8 0) := fun v => hK v _ ⟨N, hI.sc hS⟩
  by_cases hok : 0 ≤ l ∧ l < 4 ∧ 0 ≤ n ∧ n ≤ 20
  · refine E_C_list (B_C_list_0 ⟨fun q => absurd q (by omega), fun _ => ⟨fun q => absurd q (by omega), fun _ => ⟨fun _ => ⟨fun _ => ?_, fun q => absurd (by omega) q⟩, fun q => absurd (by omega) q⟩⟩⟩)
    refine E_Lists_begin (B_Lists_begin_0 ⟨by omega, ?_⟩)
    refine c_fill20 (rw_269 l (by omega) (by omega)) (fun M1 h1 h2 h3 => ?_)
    refine E_R_list (B_R_list_0 ⟨fun q => absurd q (by omega), fun _ => ⟨fun q => absurd q (by omega), fun _ => ⟨fun q => absurd q (by omega), fun _ => ⟨fun _ => ⟨by omega, ?_⟩, fun q => absurd (by omega) q⟩⟩⟩⟩)
    have key : ∀ k : Nat, k ≤ 20 → ∀ i M2, i = (k : Int) → (∀ a j, ¬ scr a j → ¬ (270 ≤ a ∧ a ≤ 274) → ¬ (296 ≤ a ∧ a ≤ 298) → M2 a j = M a j) → (∀ j, j ≠ l → M2 296 j = M 296 j ∧ M2 297 j = M 297 j ∧ M2 274 j = M 274 j) → (M2 296 l = 1 ∧ M2 297 l = n ∧ M2 274 l = n) → (∀ x j, 0 ≤ x → x < 4 → x ≠ l → M2 (270 + x) j = M (270 + x) j) → (∀ j, 0 ≤ j → j < 20 → M2 (270 + l) j = 0) → (∀ x j, 0 ≤ x → x < 4 → x ≠ l → 0 ≤ j → j < 20 → M2 298 (20 * x + j) = M 298 (20 * x + j)) → (∀ j, 0 ≤ j → j < i → M2 298 (20 * l + j) = 0) → AW mX9_list 52 [(2, 275), (0, l), (9, 0), (0, i)] M2 (fun r2 M3 => K 1 r2 M3) := by
      refine up_ind _ ?_ ?_
      · intro i M2 hi g1 g2 g3 g4 g5 g6 g7
        refine B_R_list_52 ⟨fun _ => hK 1 M2 ⟨N, hI.lists g1 (fun x x0 x1 => ?_)⟩, fun q => absurd (by omega) q⟩
        by_cases e : x = l
        · rw [e]
          refine Or.inr ⟨g3.1, by rw [g3.2.1, g3.2.2], by rw [g3.2.2]; omega, fun j j0 j1 => ?_⟩
          rw [g3.2.2] at j1
          rw [g5 j j0 (by omega), g7 j j0 (by omega)]
        · rw [(g2 x e).1, (g2 x e).2.1, (g2 x e).2.2]
          rcases hI.li x x0 x1 with q | ⟨q1, q2, q3, q4⟩
          · exact Or.inl q
          · refine Or.inr ⟨q1, q2, q3, fun j j0 j1 => ?_⟩
            rw [g4 x j x0 x1 e, g6 x j x0 x1 e j0 (by omega)]
            exact q4 j j0 j1
      · intro k hk2 ih i M2 hi g1 g2 g3 g4 g5 g6 g7
        refine B_R_list_52 ⟨fun q => absurd q (by omega), fun _ => ⟨by omega, by omega, by omega, by omega, ih _ _ (by omega) (fun a j q q2 q3 => ?_) (fun j q => ?_) ?_ (fun x j x0 x1 e => ?_) (fun j j0 j1 => ?_) (fun x j x0 x1 e j0 j1 => ?_) (fun j j0 j1 => ?_)⟩⟩
        · rw [up2_ne (by omega)]
          exact g1 a j q q2 q3
        · rw [up2_ne (by omega), up2_ne (by omega), up2_ne (by omega)]
          exact g2 j q
        · rw [up2_ne (by omega), up2_ne (by omega), up2_ne (by omega)]
          exact g3
        · rw [up2_ne (by omega)]
          exact g4 x j x0 x1 e
        · rw [up2_ne (by omega)]
          exact g5 j j0 j1
        · unfold up2
          rw [if_neg (by omega)]
          exact g6 x j x0 x1 e j0 j1
        · unfold up2
          by_cases e : j = i
          · rw [if_pos (by omega)]
          · rw [if_neg (by omega)]
            exact g7 j j0 (by omega)
    refine key 0 (Nat.zero_le _) 0 _ rfl (fun a j q q2 q3 => ?_) (fun j q => ?_) ?_ (fun x j x0 x1 e => ?_) (fun j j0 j1 => ?_) (fun x j x0 x1 e j0 j1 => ?_) (fun j j0 j1 => absurd j1 (by omega))
    · rw [up2_ne (by omega), up2_ne (by omega)]
      have : ¬ (a = 275 ∧ j = 8) := fun z => q (by unfold scr; omega)
      unfold up2
      rw [if_neg this, if_neg (by omega)]
      exact h1 a j (by omega)
    · refine ⟨?_, ?_, ?_⟩
      · rw [up2_ni (by omega), up2_ni (by omega), up2_ni (by omega), up2_ni (by omega)]
        exact h1 _ _ (by omega)
      · rw [up2_ni (by omega), up2_ni (by omega), up2_ni (by omega), up2_ni (by omega)]
        exact h1 _ _ (by omega)
      · rw [up2_ni (by omega), up2_ni (by omega), up2_ni (by omega), up2_ni (by omega)]
        exact h1 _ _ (by omega)
    · refine ⟨?_, ?_, ?_⟩
      · unfold up2
        rw [if_neg (by omega), if_pos (by omega)]
      · unfold up2
        rw [if_pos (by omega)]
      · unfold up2
        rw [if_neg (by omega), if_neg (by omega), if_neg (by omega), if_pos (by omega)]
    · rw [up2_ne (by omega), up2_ne (by omega), up2_ne (by omega), up2_ne (by omega)]
      exact h1 _ _ (by omega)
    · rw [up2_ne (by omega), up2_ne (by omega), up2_ne (by omega), up2_ne (by omega)]
      exact h2 j j0 j1
    · rw [up2_ne (by omega), up2_ne (by omega), up2_ne (by omega), up2_ne (by omega)]
      exact h1 _ _ (by omega)
  · have hc : ∀ v, v = fList l n → v = fList l n := fun _ h => h
    have hr : Calls mX9_list [(2, 275), (0, l), (0, n)] S0 M (fun r2 M2 => K (fList l n) r2 M2) := by
      have hv : ∀ v, v = fList l n → K (fList l n) v (up2 M 275 8 0) := fun v h => h ▸ hk _
      refine E_R_list (B_R_list_0 ?_)
      repeat' (first | refine And.intro ?_ ?_ | refine imp_i (fun _ => ?_))
      all_goals (first | omega | exact hv _ (by unfold fList; (repeat' split) <;> omega))
    have hv : ∀ v, v = fList l n → Calls mX9_list [(2, 275), (0, l), (0, n)] S0 M (fun r2 M2 => K v r2 M2) := fun v h => h ▸ hr
    refine E_C_list (B_C_list_0 ?_)
    repeat' (first | refine And.intro ?_ ?_ | refine imp_i (fun _ => ?_))
    all_goals (first | omega | exact hv _ (by unfold fList; (repeat' split) <;> omega))
