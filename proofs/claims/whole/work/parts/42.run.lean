theorem rdE_bd {N : Net} {l t sh a b : Int} {ah e : Int → Int} (hg : Good N) (l0 : 0 ≤ l) (l1 : l < N.ln) (t0 : 0 ≤ t) (t1 : t < N.tr l) (hm : ∀ i, 0 ≤ i → i < N.sz l → onB N l t ah i.toNat = true → a ≤ N.mi l t i) (he : ∀ s, a ≤ e s ∧ e s ≤ b) : ∀ i : Nat, (i : Int) ≤ N.sz l → ∀ s, a ≤ rdE N l t sh ah e i s ∧ rdE N l t sh ah e i s ≤ b
  | 0, _, s => he s
  | i + 1, hi, s => by
    have ih := rdE_bd (sh := sh) hg l0 l1 t0 t1 hm he i (by omega) s
    rw [rdE_s]
    split
    · rename_i h
      have := hm i (by omega) (by omega) (by rw [Int.toNat_natCast]; exact h.2.1)
      omega
    · exact ih
theorem rdT_bd {N : Net} {ll lt sh l a b : Int} {ah e : Int → Int} (hg : Good N) (l0 : 0 ≤ l) (l1 : l < N.ln) (hm : ∀ t i, 0 ≤ t → t < N.tr l → 0 ≤ i → i < N.sz l → onB N l t ah i.toNat = true → a ≤ N.mi l t i) (he : ∀ s, a ≤ e s ∧ e s ≤ b) : ∀ t : Nat, (t : Int) ≤ N.tr l → ∀ s, a ≤ rdT N ll lt sh ah e l t s ∧ rdT N ll lt sh ah e l t s ≤ b
  | 0, _, s => he s
  | t + 1, ht, s => by
    have ih := rdT_bd (ll := ll) (lt := lt) (sh := sh) hg l0 l1 hm he t (by omega)
    have hk := hg.lineK l0 l1
    rw [rdT_s]
    split
    · exact rdE_bd hg l0 l1 (by omega) (by omega) (fun i i0 i1 => hm t i (by omega) (by omega) i0 i1) ih _ (by omega) s
    · exact ih s
theorem rdL_bd {N : Net} {ll lt sh a b : Int} {ah e : Int → Int} (hg : Good N) (hm : ∀ l t i, 0 ≤ l → l < N.ln → 0 ≤ t → t < N.tr l → 0 ≤ i → i < N.sz l → onB N l t ah i.toNat = true → a ≤ N.mi l t i) (he : ∀ s, a ≤ e s ∧ e s ≤ b) : ∀ l : Nat, (l : Int) ≤ N.ln → ∀ s, a ≤ rdL N ll lt sh ah e l s ∧ rdL N ll lt sh ah e l s ≤ b
  | 0, _, s => he s
  | l + 1, hl, s => by
    have ih := rdL_bd (ll := ll) (lt := lt) (sh := sh) hg hm he l (by omega)
    have hk := hg.lineK (l := l) (by omega) (by omega)
    rw [rdL_s]
    exact rdT_bd hg (by omega) (by omega) (fun t i => hm l t i (by omega) (by omega)) ih _ (by omega) s
theorem rdn_bd {N : Net} {ll lt sh fr at_ : Int} (hg : Good N) : ∀ (r : Nat) (s : Int), 0 ≤ rdn N ll lt sh fr at_ r s ∧ rdn N ll lt sh fr at_ r s ≤ 10000
  | 0, s => by
    show 0 ≤ (10000 : Int) ∧ (10000 : Int) ≤ 10000
    omega
  | r + 1, s => by
    have h0 := hg.1
    exact rdL_bd hg (fun l t i l0 l1 t0 t1 i0 i1 _ => (hg.min l0 l1 t0 t1 i0 i1).1) (fun _ => by omega) _ (by omega) s
set_option maxHeartbeats 4000000 in
theorem c_run {N : Net} {M : Mem} {Q : Int → Mem → Prop} {ll lt sh fr at_ r : Int} (hg : Good N) (hN : CH N 0 M) (h3 : M 229 3 = ll) (h4 : M 229 4 = lt) (h5 : M 229 5 = sh) (hat : 0 ≤ at_ ∧ at_ ≤ 2000) (hr : 0 ≤ r ∧ r ≤ 6)
    (hQ : ∀ M1, frm 231 246 M M1 → (∀ k : Nat, (k : Int) ≤ r → ∀ s, 0 ≤ s → s < 12 → M1 (231 + k) s = bst N ll lt sh fr at_ k s) → Q 0 M1) : Calls mX6_run [(2, 229), (0, fr), (0, at_), (0, r)] S0 M Q := by
  refine E_Search_run (B_Search_run_0 ?_)
  have key : ∀ k : Nat, k ≤ (r + 1).toNat → ∀ M1 : Mem, frm 231 246 M M1 → (∀ j : Nat, j < k → ∀ s, 0 ≤ s → s < 12 → M1 (231 + j) s = bst N ll lt sh fr at_ j s) → AW mX6_run 3 [(2, 229), (0, fr), (0, at_), (0, r), (0, (k : Int))] M1 Q := by
    refine up_ind _ ?_ ?_
    · intro M1 hf hb
      exact B_Search_run_3 ⟨fun _ => hQ M1 hf (fun k hk => hb k (by omega)), fun q => absurd (by omega) q⟩
    · intro k hk ih M1 hf hb
      have e1 : (((k + 1 : Nat) : Int)) = (k : Int) + 1 := by omega
      have ri := rw_238 (k : Int) (by omega) (by omega)
      have bi := rw_230 (k : Int) (by omega) (by omega)
      -- the walks of the round, over its rides
      have walks : ∀ M2 : Mem, frm 231 246 M M2 → (∀ j : Nat, j < k → ∀ s, 0 ≤ s → s < 12 → M2 (231 + j) s = bst N ll lt sh fr at_ j s) → (∀ s, 0 ≤ s → s < 12 → M2 (239 + k) s = rdn N ll lt sh fr at_ k s) → Calls mX6_arriveAll [(2, 229), (0, fr), (0, at_), (2, 239 + (k : Int)), (2, 231 + (k : Int))] S0 M2 (fun _ M3 => (-2147483648 ≤ (k : Int) + 1 ∧ (k : Int) + 1 ≤ 2147483647) ∧ AW mX6_run 3 [(2, 229), (0, fr), (0, at_), (0, r), (0, (k : Int) + 1)] M3 Q) := by
        intro M2 hf2 hb2 hr2
        refine c_arriveAll hg (hN.frm hf2 (by omega) hg) ri bi (by omega) (by omega) hat hr2 (fun q _ _ => rdn_bd hg k q) (fun M3 hf3 hr3 => ⟨by omega, ?_⟩)
        rw [← e1]
        refine ih M3 (fun a i q => (hf3 a i (by omega)).trans (hf2 a i q)) (fun j hj s q0 q1 => ?_)
        by_cases hjk : j = k
        · subst hjk
          rw [hr3 s q0 q1, hf2 _ _ (by omega), h5]
          rfl
        · rw [hf3 _ _ (by omega)]
          exact hb2 j (by omega) s q0 q1
      refine B_Search_run_3 ⟨fun q => absurd q (by omega), fun _ => ⟨by omega, ?_⟩⟩
      refine c_fill12 ri (fun M2 hf2 hr2 => ⟨fun h0 => ?_, fun h0 => ⟨by omega, by omega, ?_⟩⟩)
      · refine walks M2 (fun a i q => (hf2 a i (by omega)).trans (hf a i q)) (fun j hj s q0 q1 => by rw [hf2 _ _ (by omega)]; exact hb j hj s q0 q1) (fun s q0 q1 => ?_)
        rw [hr2 s q0 q1]
        obtain rfl : k = 0 := by omega
        rfl
      · obtain ⟨j, rfl⟩ : ∃ j, k = j + 1 := ⟨k - 1, by omega⟩
        have hF2 : frm 231 246 M M2 := fun a i q => (hf2 a i (by omega)).trans (hf a i q)
        have bj := rw_230 (((j + 1 : Nat) : Int) - 1) (by omega) (by omega)
        refine c_rideAll (ah := bst N ll lt sh fr at_ j) (e := fun _ => 10000) hg (hN.frm hF2 (by omega) hg) bj ri (by omega) (by omega) (fun s q0 q1 => ?_) hr2 (fun M3 hf3 hr3 => ?_)
        · rw [hf2 _ _ (by omega), show (231 : Int) + (((j + 1 : Nat) : Int) - 1) = 231 + (j : Nat) by omega]
          exact hb j (by omega) s q0 q1
        · refine walks M3 (fun a i q => (hf3 a i (by omega)).trans (hF2 a i q)) (fun i hi s q0 q1 => ?_) (fun s q0 q1 => ?_)
          · rw [hf3 _ _ (by omega), hf2 _ _ (by omega)]
            exact hb i hi s q0 q1
          · rw [hr3 s q0 q1, hF2 _ _ (by omega), hF2 _ _ (by omega), hF2 _ _ (by omega), h3, h4, h5]
            rfl
  exact key 0 (Nat.zero_le _) M frm.rf (fun j hj => absurd hj (by omega))
