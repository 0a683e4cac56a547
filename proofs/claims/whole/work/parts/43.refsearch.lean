/-! THE REFERENCE'S SEARCH -/
def upv (x : Int) : Int := if x = 10000 then 100000000 else x
theorem upv_lt {m x : Int} (hm : m ≤ 9999) (hx : x ≤ 10000) : (m < upv x ↔ m < x) := by
  unfold upv
  split <;> omega
theorem upv_le {m x : Int} (hm : m ≤ 9999) (hx : x ≤ 10000) : (upv x ≤ m ↔ x ≤ m) := by
  unfold upv
  split <;> omega
theorem upv_id {x : Int} (h : x < 10000) : upv x = x := if_neg (by omega)
theorem upv_bd {x : Int} (h : 0 ≤ x ∧ x ≤ 10000) : 0 ≤ upv x ∧ upv x ≤ 100000000 := by
  unfold upv
  split <;> omega
/-- what may change -/
def frR (M M1 : Mem) : Prop := ∀ a i, a ≠ 283 → a ≠ 284 → ¬ (a = 275 ∧ i = 11) → M1 a i = M a i
theorem RH.keep {N : Net} {M M1 : Mem} (h : RH N M) (hf : ∀ a i, (a = 275 ∧ i = 0) ∨ (276 ≤ a ∧ a ≤ 282) → M1 a i = M a i) : RH N M1 := by
  obtain ⟨h1, h2, h3⟩ := h
  refine ⟨by rw [hf _ _ (by omega)]; exact h1, fun l l0 l1 => ?_, fun a b a0 a1 b0 b1 => by rw [hf _ _ (by omega)]; exact h3 a b a0 a1 b0 b1⟩
  obtain ⟨q1, q2, q3, q4, q5⟩ := h2 l l0 l1
  refine ⟨by rw [hf _ _ (by omega)]; exact q1, by rw [hf _ _ (by omega)]; exact q2, by rw [hf _ _ (by omega)]; exact q3, fun i i0 i1 => by rw [hf _ _ (by omega)]; exact q4 i i0 i1, fun t t0 t1 => ?_⟩
  obtain ⟨w1, w2⟩ := q5 t t0 t1
  exact ⟨by rw [hf _ _ (by omega)]; exact w1, fun i i0 i1 => by rw [hf _ _ (by omega)]; exact w2 i i0 i1⟩
theorem Good.trip {N : Net} (hg : Good N) {l t : Int} (h0 : 0 ≤ l) (h1 : l < N.ln) (ht : 0 ≤ t) (ht1 : t < N.tr l) : N.rn l t = runF (N.kd l) (N.fi l t) ∧ (0 ≤ N.fi l t ∧ N.fi l t ≤ 1999) := by
  obtain ⟨a, b, -⟩ := (hg.2.1 l h0 h1).2.2.2.2.2 t ht ht1
  exact ⟨a, b⟩
set_option maxHeartbeats 4000000 in
theorem r_isRunning {N : Net} {M : Mem} {Q : Int → Mem → Prop} {l t : Int} (hg : Good N) (hN : RH N M) (l0 : 0 ≤ l) (l1 : l < N.ln) (t0 : 0 ≤ t) (t1 : t < N.tr l) (hQ : Q (N.rn l t) M) : Calls mX9_isRunning [(2, 275), (0, l), (0, t)] S0 M Q := by
  obtain ⟨k1, k2, k3, k4⟩ := hg.lineK l0 l1
  obtain ⟨g1, g2⟩ := hg.trip l0 l1 t0 t1
  rw [g1] at hQ
  refine E_R_isRunning (B_R_isRunning_0 ?_)
  rw [(hN.line l0 l1).1, hN.first l0 l1 t0 t1 rfl]
  unfold runF at hQ
  refine ⟨by omega, by omega, by omega, by omega, fun h => ?_, fun h => ⟨fun h2 => ?_, fun h2 => ?_⟩, fun h => ⟨fun h2 => ?_, fun h2 => ⟨fun h3 => ?_, fun h3 => ?_⟩⟩, fun h => ⟨fun h2 => ?_, fun h2 => ⟨fun h3 => ⟨by omega, fun h4 => ?_, fun h4 => ?_⟩, fun h3 => ?_⟩⟩, fun h => ⟨fun h2 => ?_, fun h2 => ⟨fun h3 => ?_, fun h3 => ?_⟩⟩, fun h => ⟨fun h2 => ?_, fun h2 => ⟨fun h3 => ⟨by omega, fun h4 => ?_, fun h4 => ?_⟩, fun h3 => ?_⟩⟩⟩
  all_goals (first | (rw [if_neg (by omega), if_neg (by omega), if_neg (by omega), if_neg (by omega)] at hQ; exact hQ) | (rw [if_pos (by omega), if_neg (by omega)] at hQ; exact hQ) | (rw [if_pos (by omega), if_pos (by omega)] at hQ; exact hQ) | (rw [if_neg (by omega), if_pos (by omega), if_neg (by omega)] at hQ; exact hQ) | (rw [if_neg (by omega), if_pos (by omega), if_pos (by omega)] at hQ; exact hQ) | (rw [if_neg (by omega), if_neg (by omega), if_pos (by omega), if_neg (by omega)] at hQ; exact hQ) | (rw [if_neg (by omega), if_neg (by omega), if_pos (by omega), if_pos (by omega)] at hQ; exact hQ) | (rw [if_neg (by omega), if_neg (by omega), if_neg (by omega), if_pos (by omega), if_neg (by omega)] at hQ; exact hQ) | (rw [if_neg (by omega), if_neg (by omega), if_neg (by omega), if_pos (by omega), if_pos (by omega)] at hQ; exact hQ))
set_option maxHeartbeats 4000000 in
theorem r_layTrip {N : Net} {M : Mem} {Q : Int → Mem → Prop} {l t r sh : Int} {ah e : Int → Int} (hg : Good N) (hN : RH N M) (l0 : 0 ≤ l) (l1 : l < N.ln) (t0 : 0 ≤ t) (t1 : t < N.tr l) (r0 : 1 ≤ r) (r1 : r ≤ 6) (hsh : M 275 10 = sh) (hah : ∀ s, 0 ≤ s → s < 12 → M 284 (12 * (r - 1) + s) = upv (ah s)) (he : ∀ s, 0 ≤ s → s < 12 → M 283 (12 * r + s) = upv (e s)) (hab : ∀ s, 0 ≤ s → s < 12 → ah s ≤ 10000) (heb : ∀ s, 0 ≤ s → s < 12 → e s ≤ 10000) (hl : ∀ s, 0 ≤ s → s < 12 → s = sh → ah s = 10000)
    (hQ : ∀ M1, (∀ a i, ¬ (a = 283 ∧ 12 * r ≤ i ∧ i < 12 * r + 12) → M1 a i = M a i) → (∀ s, 0 ≤ s → s < 12 → M1 283 (12 * r + s) = upv (rdE N l t sh ah e (N.sz l).toNat s)) → Q 0 M1) : Calls mX9_layTrip [(2, 275), (0, r), (0, l), (0, t)] S0 M Q := by
  refine E_R_layTrip (B_R_layTrip_0 ?_)
  obtain ⟨k1, k2, k3, k4⟩ := hg.lineK l0 l1
  have hle : ∀ (k : Nat) (s : Int), 0 ≤ s → s < 12 → rdE N l t sh ah e k s ≤ 10000 := by
    intro k s q0 q1
    induction k with
    | zero => exact heb s q0 q1
    | succ k ih =>
      rw [rdE_s]
      split <;> omega
  have key : ∀ k : Nat, k ≤ (N.sz l).toNat → ∀ (M1 : Mem) (x : Int), (x = 0 ∨ x = 1) → (x = 0 ↔ onB N l t ah k = false) → (∀ a i, ¬ (a = 283 ∧ 12 * r ≤ i ∧ i < 12 * r + 12) → M1 a i = M a i) → (∀ s, 0 ≤ s → s < 12 → M1 283 (12 * r + s) = upv (rdE N l t sh ah e k s)) → AW mX9_layTrip 6 [(2, 275), (0, r), (0, l), (0, t), (0, x), (0, (k : Int)), (9, 0), (9, 0)] M1 Q := by
    refine up_ind _ ?_ ?_
    · intro M1 x hx hx2 hf hr
      refine B_R_layTrip_6 ⟨by omega, fun _ => hQ M1 hf hr, fun q => absurd (by rw [hf 277 l (by omega), (hN.line l0 l1).2.1]; omega) q⟩
    · intro k hk ih M1 x hx hx2 hf hr
      have i0 : (0 : Int) ≤ k := by omega
      have i1 : (k : Int) < N.sz l := by omega
      have f0 : M1 277 l = N.sz l := by rw [hf _ _ (by omega)]; exact (hN.line l0 l1).2.1
      have f1 : M1 278 (6 * l + k) = N.sp l k := by rw [hf _ _ (by omega)]; exact hN.stop l0 l1 i0 i1 rfl
      have f2 : M1 281 (36 * l + 6 * t + k) = N.mi l t k := by rw [hf _ _ (by omega)]; exact hN.min l0 l1 t0 t1 i0 i1 rfl
      have f3 : M1 275 10 = sh := by rw [hf _ _ (by omega)]; exact hsh
      obtain ⟨s0, s1⟩ := hg.stop l0 l1 i0 i1
      obtain ⟨m0, m1⟩ := hg.min l0 l1 t0 t1 i0 i1
      have f4 : M1 284 (12 * (r - 1) + N.sp l k) = upv (ah (N.sp l k)) := by rw [hf _ _ (by omega)]; exact hah _ s0 s1
      have f5 := hr _ s0 s1
      have u1 := hab _ s0 s1
      have u2 := hle k _ s0 s1
      have u3 := hl _ s0 s1
      have v1 := upv_lt (m := N.mi l t k) (x := ah (N.sp l k)) (by omega) u1
      have v2 := upv_le (m := N.mi l t k) (x := rdE N l t sh ah e k (N.sp l k)) (by omega) u2
      have e1 : (((k + 1 : Nat) : Int)) = (k : Int) + 1 := by omega
      have keep : (N.sp l k = sh ∨ onB N l t ah k = false ∨ rdE N l t sh ah e k (N.sp l k) ≤ N.mi l t k) → ∀ y : Int, (y = 0 ∨ y = 1) → (y = 0 ↔ onB N l t ah (k + 1) = false) → AW mX9_layTrip 6 [(2, 275), (0, r), (0, l), (0, t), (0, y), (0, (k : Int) + 1), (9, 0), (9, 0)] M1 Q := by
        intro hh y hy hy2
        rw [← e1]
        refine ih M1 y hy hy2 hf (fun s q0 q1 => ?_)
        rw [hr s q0 q1, rdE_s]
        split
        · rename_i hc
          obtain ⟨rfl, hc2, hc3⟩ := hc
          rcases hh with h | h | h
          · exact absurd h hc3
          · rw [h] at hc2; cases hc2
          · congr 1
            omega
        · rfl
      have put : N.sp l k ≠ sh → onB N l t ah k = true → N.mi l t k < rdE N l t sh ah e k (N.sp l k) → ∀ y : Int, (y = 0 ∨ y = 1) → (y = 0 ↔ onB N l t ah (k + 1) = false) → AW mX9_layTrip 6 [(2, 275), (0, r), (0, l), (0, t), (0, y), (0, (k : Int) + 1), (9, 0), (9, 0)] (up2 M1 283 (12 * r + N.sp l k) (N.mi l t k)) Q := by
        intro h1 h2 h3 y hy hy2
        rw [← e1]
        refine ih _ y hy hy2 (fun a i q => ?_) (fun s q0 q1 => ?_)
        · unfold up2
          rw [if_neg (by omega)]
          exact hf a i q
        · rw [rdE_s]
          unfold up2
          by_cases hs : s = N.sp l k
          · subst hs
            rw [if_pos ⟨rfl, rfl⟩, if_pos ⟨rfl, h2, h1⟩, Int.min_eq_right (by omega), upv_id (by omega)]
          · rw [if_neg (fun q => hs (by have := q.2; omega)), if_neg (fun q => hs q.1)]
            exact hr s q0 q1
      have hon : ∀ y : Int, ((y = x ∧ N.mi l t k < ah (N.sp l k)) ∨ (y = 1 ∧ (ah (N.sp l k) ≤ N.mi l t k ∨ x = 1))) → (y = 0 ∨ y = 1) ∧ (y = 0 ↔ onB N l t ah (k + 1) = false) := by
        intro y hy
        rw [onB_s]
        rcases hy with ⟨rfl, h⟩ | ⟨rfl, h | h⟩
        · rw [decide_eq_false (by omega), Bool.or_false]
          exact ⟨hx, hx2⟩
        · rw [decide_eq_true h, Bool.or_true]
          exact ⟨Or.inr rfl, by simp⟩
        · have hb1 : onB N l t ah k = true := by
            cases hq : onB N l t ah k
            · have := hx2.mpr hq
              omega
            · rfl
          rw [hb1, Bool.true_or]
          exact ⟨Or.inr rfl, by simp⟩
      have onT : ¬ x = 0 → onB N l t ah k = true := fun h => by
        cases hq : onB N l t ah k
        · exact absurd (hx2.mpr hq) h
        · rfl
      refine B_R_layTrip_6 ?_
      rw [f0, f1, f2, f3, f4, f5]
      refine ⟨by omega, fun q => absurd q (by omega), fun _ => ⟨by omega, by omega, by omega, by omega, by omega, by omega, by omega, by omega, fun hx0 => ⟨fun h => ⟨by omega, ?_⟩, fun h => ⟨by omega, by omega, by omega, by omega, fun h2 => ⟨by omega, ?_⟩, fun h2 => ⟨by omega, ?_⟩⟩⟩, fun hx0 => ⟨fun h => ⟨by omega, ?_⟩, fun h => ⟨by omega, by omega, by omega, fun h2 => ⟨by omega, ?_⟩, fun h2 => ⟨by omega, ?_⟩⟩⟩⟩⟩
      · exact keep (Or.inl h) 0 (hon 0 (Or.inl ⟨hx0.symm, by omega⟩)).1 (hon 0 (Or.inl ⟨hx0.symm, by omega⟩)).2
      · exact keep (Or.inr (Or.inl (hx2.mp hx0))) 0 (hon 0 (Or.inl ⟨hx0.symm, by omega⟩)).1 (hon 0 (Or.inl ⟨hx0.symm, by omega⟩)).2
      · exact keep (Or.inr (Or.inl (hx2.mp hx0))) 1 (hon 1 (Or.inr ⟨rfl, by omega⟩)).1 (hon 1 (Or.inr ⟨rfl, by omega⟩)).2
      · exact keep (Or.inl h) 1 (hon 1 (Or.inr ⟨rfl, by omega⟩)).1 (hon 1 (Or.inr ⟨rfl, by omega⟩)).2
      · exact keep (Or.inr (Or.inr (by omega))) 1 (hon 1 (Or.inr ⟨rfl, by omega⟩)).1 (hon 1 (Or.inr ⟨rfl, by omega⟩)).2
      · exact put h (onT hx0) (by omega) 1 (hon 1 (Or.inr ⟨rfl, by omega⟩)).1 (hon 1 (Or.inr ⟨rfl, by omega⟩)).2
  exact key 0 (Nat.zero_le _) M 0 (Or.inl rfl) ⟨fun _ => rfl, fun _ => rfl⟩ (fun _ _ _ => rfl) he
/-- walks of a round, as the reference has them -/
def wkR (N : Net) (sh : Int) (e : Int → Int) (s : Int) : Nat → Int
  | 0 => e s
  | p + 1 => if (p : Int) ≠ s ∧ (p : Int) ≠ sh ∧ s ≠ sh ∧ N.pt p s ≠ 0 ∧ e p ≠ 10000 then min (wkR N sh e s p) (e p + N.pt p s) else wkR N sh e s p
theorem wkR_s (N : Net) (sh : Int) (e : Int → Int) (s : Int) (p : Nat) : wkR N sh e s (p + 1) = if (p : Int) ≠ s ∧ (p : Int) ≠ sh ∧ s ≠ sh ∧ N.pt p s ≠ 0 ∧ e p ≠ 10000 then min (wkR N sh e s p) (e p + N.pt p s) else wkR N sh e s p := rfl
theorem wkR_bd {N : Net} {sh : Int} {e : Int → Int} {s : Int} (hg : Good N) (s0 : 0 ≤ s) (s1 : s < 12) (he : ∀ q, 0 ≤ q → q < 12 → 0 ≤ e q ∧ e q ≤ 10000) : ∀ p : Nat, p ≤ 12 → 0 ≤ wkR N sh e s p ∧ wkR N sh e s p ≤ 10000
  | 0, _ => he s s0 s1
  | p + 1, hp => by
    have ih := wkR_bd (sh := sh) hg s0 s1 he p (by omega)
    have h1 := hg.path (a := p) (b := s) (by omega) (by omega) s0 s1
    have h2 := he p (by omega) (by omega)
    rw [wkR_s]
    split <;> omega
set_option maxHeartbeats 4000000 in
theorem r_layWalks {N : Net} {M : Mem} {Q : Int → Mem → Prop} {r sh : Int} {e : Int → Int} (hg : Good N) (hN : RH N M) (r0 : 0 ≤ r) (r1 : r ≤ 6) (hsh : M 275 10 = sh) (he : ∀ s, 0 ≤ s → s < 12 → M 283 (12 * r + s) = upv (e s)) (heb : ∀ s, 0 ≤ s → s < 12 → 0 ≤ e s ∧ e s ≤ 10000) (hem : ∀ s, 0 ≤ s → s < 12 → e s ≠ 10000 → e s ≤ 9000)
    (hQ : ∀ M1, (∀ a i, ¬ (a = 284 ∧ 12 * r ≤ i ∧ i < 12 * r + 12) → M1 a i = M a i) → (∀ s, 0 ≤ s → s < 12 → M1 284 (12 * r + s) = upv (wkR N sh e s 12)) → Q 0 M1) : Calls mX9_layWalks [(2, 275), (0, r)] S0 M Q := by
  refine E_R_layWalks (B_R_layWalks_0 ?_)
  have key : ∀ k : Nat, k ≤ 12 → ∀ M1 : Mem, (∀ a i, ¬ (a = 284 ∧ 12 * r ≤ i ∧ i < 12 * r + 12) → M1 a i = M a i) → (∀ s : Int, 0 ≤ s → s < k → M1 284 (12 * r + s) = upv (wkR N sh e s 12)) → AW mX9_layWalks 2 [(2, 275), (0, r), (0, (k : Int)), (9, 0), (9, 0), (9, 0)] M1 Q := by
    refine up_ind _ ?_ ?_
    · intro M1 hf hr
      exact B_R_layWalks_2 ⟨fun _ => hQ M1 hf (fun s q0 q1 => hr s q0 (by omega)), fun q => absurd (by omega) q⟩
    · intro k hk ih M1 hf hr
      have e1 : (((k + 1 : Nat) : Int)) = (k : Int) + 1 := by omega
      have g1 : ∀ q, 0 ≤ q → q < 12 → M1 283 (12 * r + q) = upv (e q) := fun q q0 q1 => by rw [hf _ _ (by omega)]; exact he q q0 q1
      have g2 : M1 275 10 = sh := by rw [hf _ _ (by omega)]; exact hsh
      have g3 : ∀ a b x : Int, 0 ≤ a → a < 12 → 0 ≤ b → b < 12 → x = 12 * a + b → M1 282 x = N.pt a b := fun a b x a0 a1 b0 b1 hx => by rw [hf _ _ (by omega)]; exact hN.path a0 a1 b0 b1 hx
      refine B_R_layWalks_2 ⟨fun q => absurd q (by omega), fun _ => ⟨by omega, by omega, by omega, ?_⟩⟩
      have key2 : ∀ p : Nat, p ≤ 12 → AW mX9_layWalks 23 [(2, 275), (0, r), (0, (k : Int)), (0, upv (wkR N sh e k p)), (0, (p : Int)), (9, 0)] M1 Q := by
        refine up_ind _ ?_ ?_
        · have hb := wkR_bd (sh := sh) (s := k) hg (by omega) (by omega) heb 12 (Nat.le_refl _)
          have hb2 := upv_bd hb
          have go : ∀ v, v = upv (wkR N sh e k 12) → AW mX9_layWalks 2 [(2, 275), (0, r), (0, (k : Int) + 1), (9, 0), (9, 0), (9, 0)] (up2 M1 284 (12 * r + k) v) Q := by
            intro v hv
            rw [← e1]
            refine ih _ (fun a i q => ?_) (fun s q0 q1 => ?_)
            · unfold up2
              rw [if_neg (by omega)]
              exact hf a i q
            · unfold up2
              by_cases hs : s = k
              · subst hs
                rw [if_pos ⟨rfl, rfl⟩]
                exact hv
              · rw [if_neg (fun q => hs (by have := q.2; omega))]
                exact hr s q0 (by omega)
          refine B_R_layWalks_23 ⟨fun _ => ⟨by omega, by omega, fun h => ⟨by omega, by omega, go _ (by omega)⟩, fun h => ⟨by omega, by omega, go _ rfl⟩⟩, fun q => absurd (by omega) q⟩
        · intro p hp ih2
          have e2 : (((p + 1 : Nat) : Int)) = (p : Int) + 1 := by omega
          have hb := wkR_bd (sh := sh) (s := k) hg (by omega) (by omega) heb p (by omega)
          have hb2 := upv_bd hb
          have hp1 := heb p (by omega) (by omega)
          have hp2 := hem p (by omega) (by omega)
          have hp3 := upv_bd hp1
          have hp4 := hg.path (a := p) (b := k) (by omega) (by omega) (by omega) (by omega)
          rw [wkR_s, e2] at ih2
          have same : ¬ ((p : Int) ≠ k ∧ (p : Int) ≠ sh ∧ (k : Int) ≠ sh ∧ N.pt p k ≠ 0 ∧ e p ≠ 10000) → AW mX9_layWalks 23 [(2, 275), (0, r), (0, (k : Int)), (0, upv (wkR N sh e k p)), (0, (p : Int) + 1), (9, 0)] M1 Q := fun h => by
            rw [if_neg h] at ih2
            exact ih2
          refine B_R_layWalks_23 ?_
          rw [g1 p (by omega) (by omega), g2, g3 p k _ (by omega) (by omega) (by omega) (by omega) rfl]
          refine ⟨fun q => absurd q (by omega), fun _ => ⟨fun h => ⟨by omega, by omega, by omega, fun h2 => ⟨by omega, fun h3 => ⟨by omega, same (fun q => q.2.1 h2)⟩, fun h3 => absurd (by omega) h3⟩, fun h2 => ⟨fun h3 => ⟨by omega, fun h4 => ⟨by omega, same (fun q => q.2.2.1 h3)⟩, fun h4 => absurd (by omega) h4⟩, fun h3 => ⟨by omega, by omega, by omega, fun h4 => ⟨by omega, fun h5 => ⟨by omega, ?_⟩, fun h5 => ⟨by omega, ?_⟩⟩, fun h4 => ⟨by omega, fun h5 => ⟨by omega, same (fun q => q.2.2.2.1 h4)⟩, fun h5 => absurd (by omega) h5⟩⟩⟩⟩, fun h => ⟨fun h2 => ⟨by omega, same (fun q => q.1 h)⟩, fun h2 => absurd (by omega) h2⟩⟩⟩
          · by_cases hc : e p = 10000
            · exact same (fun q => q.2.2.2.2 hc)
            · rw [if_pos ⟨h, h2, h3, h4, hc⟩] at ih2
              rw [upv_id (x := e p) (by omega)] at h5
              have : wkR N sh e k p ≤ e p + N.pt p k := by
                unfold upv at h5
                split at h5 <;> omega
              rw [Int.min_eq_left this] at ih2
              exact ih2
          · by_cases hc : e p = 10000
            · rw [hc] at h5
              exact absurd (by unfold upv at *; omega) h5
            · rw [if_pos ⟨h, h2, h3, h4, hc⟩] at ih2
              rw [upv_id (x := e p) (by omega)] at h5 ⊢
              have : e p + N.pt p k < wkR N sh e k p := by
                unfold upv at h5
                split at h5 <;> omega
              rw [Int.min_eq_right (by omega), upv_id (by omega)] at ih2
              exact ih2
      rw [g1 k (by omega) (by omega)]
      exact key2 0 (Nat.zero_le _)
  exact key 0 (Nat.zero_le _) M (fun _ _ _ => rfl) (fun s q0 q1 => by omega)
