/-! THE CLASS'S SEARCH -/
theorem onB_01 (N : Net) (l t : Int) (ah : Int → Int) (i : Nat) : ∃ x : Int, (x = 0 ∨ x = 1) ∧ (x = 0 ↔ onB N l t ah i = false) := by
  cases onB N l t ah i
  · exact ⟨0, Or.inl rfl, by simp⟩
  · exact ⟨1, Or.inr rfl, by simp⟩
set_option maxHeartbeats 4000000 in
theorem c_rideOne {N : Net} {M : Mem} {Q : Int → Mem → Prop} {l t la lb : Int} {ah e : Int → Int} (hg : Good N) (hN : CH N 0 M) (l0 : 0 ≤ l) (l1 : l < N.ln) (t0 : 0 ≤ t) (t1 : t < N.tr l) (ha : isA la 12) (hb : isA lb 12) (hab : la ≠ lb) (hlb : 238 < lb ∧ lb < 246) (hah : ∀ s, 0 ≤ s → s < 12 → M la s = ah s) (he : ∀ s, 0 ≤ s → s < 12 → M lb s = e s)
    (hQ : ∀ M1, (∀ a i, a ≠ lb → M1 a i = M a i) → (∀ s, 0 ≤ s → s < 12 → M1 lb s = rdE N l t (M 229 5) ah e (N.sz l).toNat s) → Q 0 M1) : Calls mX6_rideOne [(2, 229), (0, l), (0, t), (2, la), (2, lb)] S0 M Q := by
  refine E_Search_rideOne (B_Search_rideOne_0 ha hb ?_)
  obtain ⟨k1, k2, k3, k4⟩ := hg.lineK l0 l1
  obtain ⟨c1, c2, c3⟩ := hN.line l0 l1
  have key : ∀ k : Nat, k ≤ (N.sz l).toNat → ∀ (M1 : Mem) (x : Int), (x = 0 ∨ x = 1) → (x = 0 ↔ onB N l t ah k = false) → (∀ a i, a ≠ lb → M1 a i = M a i) → (∀ s, 0 ≤ s → s < 12 → M1 lb s = rdE N l t (M 229 5) ah e k s) → AW mX6_rideOne 6 [(2, 229), (0, l), (0, t), (2, la), (2, lb), (0, x), (0, (k : Int)), (9, 0), (9, 0)] M1 Q := by
    refine up_ind _ ?_ ?_
    · intro M1 x hx hx2 hf hr
      refine B_Search_rideOne_6 ha hb ⟨by omega, fun _ => hQ M1 hf hr, fun q => absurd (by rw [hf 3 l (by omega), c2]; omega) q⟩
    · intro k hk ih M1 x hx hx2 hf hr
      have i0 : (0 : Int) ≤ k := by omega
      have i1 : (k : Int) < N.sz l := by omega
      have f0 := hf 3 l (by omega)
      have f1 : M1 (6 + l) k = N.sp l k := by rw [hf _ _ (by omega)]; exact hN.stop l0 l1 i0 i1 rfl
      have f2 : M1 (15 + (l * 6 + t)) k = N.mi l t k := by rw [hf _ _ (by omega)]; exact hN.min l0 l1 t0 t1 i0 i1 rfl
      have f3 : M1 229 5 = M 229 5 := hf _ _ (by omega)
      obtain ⟨s0, s1⟩ := hg.stop l0 l1 i0 i1
      obtain ⟨m0, m1⟩ := hg.min l0 l1 t0 t1 i0 i1
      have f4 : M1 la (N.sp l k) = ah (N.sp l k) := by rw [hf _ _ hab]; exact hah _ s0 s1
      have f5 := hr _ s0 s1
      have f6 : ∀ v, up2 M1 lb (N.sp l k) v la (N.sp l k) = ah (N.sp l k) := fun v => by rw [up2_ne hab]; exact f4
      have e1 : (((k + 1 : Nat) : Int)) = (k : Int) + 1 := by omega
      -- the next round, where nothing is put
      have keep : (N.sp l k = M 229 5 ∨ onB N l t ah k = false ∨ rdE N l t (M 229 5) ah e k (N.sp l k) ≤ N.mi l t k) → ∀ y : Int, (y = 0 ∨ y = 1) → (y = 0 ↔ onB N l t ah (k + 1) = false) → AW mX6_rideOne 6 [(2, 229), (0, l), (0, t), (2, la), (2, lb), (0, y), (0, (k : Int) + 1), (9, 0), (9, 0)] M1 Q := by
        intro hh y hy hy2
        rw [← e1]
        refine ih M1 y hy hy2 hf (fun s q0 q1 => ?_)
        rw [hr s q0 q1, rdE_s]
        split
        · rename_i hc
          obtain ⟨rfl, hc2, hc3⟩ := hc
          rcases hh with h | h | h
          · exact absurd h hc3
          · rw [h] at hc2; cases hc2
          · omega
        · rfl
      have put : N.sp l k ≠ M 229 5 → onB N l t ah k = true → N.mi l t k < rdE N l t (M 229 5) ah e k (N.sp l k) → ∀ y : Int, (y = 0 ∨ y = 1) → (y = 0 ↔ onB N l t ah (k + 1) = false) → AW mX6_rideOne 6 [(2, 229), (0, l), (0, t), (2, la), (2, lb), (0, y), (0, (k : Int) + 1), (9, 0), (9, 0)] (up2 M1 lb (N.sp l k) (N.mi l t k)) Q := by
        intro h1 h2 h3 y hy hy2
        rw [← e1]
        refine ih _ y hy hy2 (fun a i q => by rw [up2_ne q]; exact hf a i q) (fun s q0 q1 => ?_)
        rw [rdE_s]
        unfold up2
        by_cases hs : s = N.sp l k
        · subst hs
          rw [if_pos ⟨rfl, rfl⟩, if_pos ⟨rfl, h2, h1⟩]
          omega
        · rw [if_neg (fun q => hs q.2), if_neg (fun q => hs q.1)]
          exact hr s q0 q1
      have hon : ∀ y : Int, ((y = x ∧ N.mi l t k < ah (N.sp l k)) ∨ (y = 1 ∧ ah (N.sp l k) ≤ N.mi l t k)) → (y = 0 ∨ y = 1) ∧ (y = 0 ↔ onB N l t ah (k + 1) = false) := by
        intro y hy
        have : onB N l t ah (k + 1) = (onB N l t ah k || decide (ah (N.sp l k) ≤ N.mi l t k)) := rfl
        rw [this]
        rcases hy with ⟨rfl, h⟩ | ⟨rfl, h⟩
        · rw [decide_eq_false (by omega), Bool.or_false]
          exact ⟨hx, hx2⟩
        · rw [decide_eq_true h, Bool.or_true]
          exact ⟨Or.inr rfl, by simp⟩
      refine B_Search_rideOne_6 ha hb ?_
      rw [f0, c2, f1, f2, f3, f4, f5]
      refine ⟨by omega, fun q => absurd q (by omega), fun _ => ⟨by omega, by omega, by omega, by omega, fun hx0 => ⟨by omega, fun h => ⟨by omega, ?_⟩, fun h => ⟨by omega, ?_⟩⟩, fun hx0 => ⟨fun h => ⟨by omega, fun h2 => ⟨by omega, ?_⟩, fun h2 => ⟨by omega, ?_⟩⟩, fun h => ⟨by omega, fun h2 => ⟨fun h3 => ⟨by omega, ?_⟩, fun h3 => ⟨by omega, ?_⟩⟩, fun h2 => ⟨fun h3 => ⟨by omega, ?_⟩, fun h3 => ⟨by omega, ?_⟩⟩⟩⟩⟩⟩
      all_goals (try rw [f6] at h3)
      · exact keep (Or.inr (Or.inl (hx2.mp hx0))) x (hon x (Or.inl ⟨rfl, h⟩)).1 (hon x (Or.inl ⟨rfl, h⟩)).2
      · exact keep (Or.inr (Or.inl (hx2.mp hx0))) 1 (hon 1 (Or.inr ⟨rfl, by omega⟩)).1 (hon 1 (Or.inr ⟨rfl, by omega⟩)).2
      · exact keep (Or.inl h) x (hon x (Or.inl ⟨rfl, h2⟩)).1 (hon x (Or.inl ⟨rfl, h2⟩)).2
      · exact keep (Or.inl h) 1 (hon 1 (Or.inr ⟨rfl, by omega⟩)).1 (hon 1 (Or.inr ⟨rfl, by omega⟩)).2
      · exact keep (Or.inr (Or.inr h2)) x (hon x (Or.inl ⟨rfl, h3⟩)).1 (hon x (Or.inl ⟨rfl, h3⟩)).2
      · exact keep (Or.inr (Or.inr h2)) 1 (hon 1 (Or.inr ⟨rfl, by omega⟩)).1 (hon 1 (Or.inr ⟨rfl, by omega⟩)).2
      · have hb1 : onB N l t ah k = true := by
          cases hq : onB N l t ah k
          · exact absurd (hx2.mpr hq) hx0
          · rfl
        exact put h hb1 (by omega) x (hon x (Or.inl ⟨rfl, h3⟩)).1 (hon x (Or.inl ⟨rfl, h3⟩)).2
      · have hb1 : onB N l t ah k = true := by
          cases hq : onB N l t ah k
          · exact absurd (hx2.mpr hq) hx0
          · rfl
        exact put h hb1 (by omega) 1 (hon 1 (Or.inr ⟨rfl, by omega⟩)).1 (hon 1 (Or.inr ⟨rfl, by omega⟩)).2
  exact key 0 (Nat.zero_le _) M 0 (Or.inl rfl) ⟨fun _ => rfl, fun _ => rfl⟩ (fun _ _ _ => rfl) (fun s q0 q1 => he s q0 q1)
set_option maxHeartbeats 4000000 in
theorem c_fill12 {M : Mem} {Q : Int → Mem → Prop} {a v : Int} (ha : isA a 12) (hQ : ∀ M1, (∀ b i, b ≠ a → M1 b i = M b i) → (∀ s, 0 ≤ s → s < 12 → M1 a s = v) → Q 0 M1) : Calls mJ7_fill_53178 [(2, a), (0, v)] S0 M Q := by
  refine E_Arrays_fill_1 (B_Arrays_fill_1_0 ha ?_)
  have key : ∀ k : Nat, k ≤ 12 → ∀ M1 : Mem, (∀ b i, b ≠ a → M1 b i = M b i) → (∀ s : Int, 0 ≤ s → s < k → M1 a s = v) → AW mJ7_fill_53178 5 [(2, a), (0, v), (0, (k : Int)), (0, 12)] M1 Q := by
    refine up_ind _ ?_ ?_
    · intro M1 hf hr
      exact B_Arrays_fill_1_5 ha ⟨fun _ => hQ M1 hf (fun s q0 q1 => hr s q0 (by omega)), fun q => absurd (by omega) q⟩
    · intro k hk ih M1 hf hr
      refine B_Arrays_fill_1_5 ha ⟨fun q => absurd q (by omega), fun _ => ⟨by omega, by omega, ?_⟩⟩
      rw [show (k : Int) + 1 = ((k + 1 : Nat) : Int) by omega]
      refine ih _ (fun b i q => by rw [up2_ne q]; exact hf b i q) (fun s q0 q1 => ?_)
      unfold up2
      by_cases hs : s = k
      · rw [if_pos ⟨rfl, hs⟩]
      · rw [if_neg (fun q => hs q.2)]
        exact hr s q0 (by omega)
  exact key 0 (Nat.zero_le _) M (fun _ _ _ => rfl) (fun s q0 q1 => by omega)
set_option maxHeartbeats 4000000 in
theorem c_rideAll {N : Net} {M : Mem} {Q : Int → Mem → Prop} {la lb : Int} {ah e : Int → Int} (hg : Good N) (hN : CH N 0 M) (ha : isA la 12) (hb : isA lb 12) (hab : la ≠ lb) (hlb : 238 < lb ∧ lb < 246) (hah : ∀ s, 0 ≤ s → s < 12 → M la s = ah s) (he : ∀ s, 0 ≤ s → s < 12 → M lb s = e s)
    (hQ : ∀ M1, (∀ a i, a ≠ lb → M1 a i = M a i) → (∀ s, 0 ≤ s → s < 12 → M1 lb s = rdL N (M 229 3) (M 229 4) (M 229 5) ah e N.ln.toNat s) → Q 0 M1) : Calls mX6_rideAll [(2, 229), (2, la), (2, lb)] S0 M Q := by
  obtain ⟨⟨n0, n1⟩, -, -⟩ := id hg
  have hch : ∀ M1 : Mem, (∀ a i, a ≠ lb → M1 a i = M a i) → CH N 0 M1 := fun M1 hf => hN.frm (lo := 239) (hi := 246) (fun a i q => hf a i (by omega)) (by omega) hg
  refine E_Search_rideAll (B_Search_rideAll_0 ha hb ?_)
  have key : ∀ k : Nat, k ≤ N.ln.toNat → ∀ M1 : Mem, (∀ a i, a ≠ lb → M1 a i = M a i) → (∀ s, 0 ≤ s → s < 12 → M1 lb s = rdL N (M 229 3) (M 229 4) (M 229 5) ah e k s) → AW mX6_rideAll 2 [(2, 229), (2, la), (2, lb), (0, (k : Int)), (9, 0), (9, 0)] M1 Q := by
    refine up_ind _ ?_ ?_
    · intro M1 hf hr
      refine B_Search_rideAll_2 ha hb ⟨fun _ => hQ M1 hf hr, fun q => absurd ?_ q⟩
      rw [(hch M1 hf).lines]
      omega
    · intro k hk ih M1 hf hr
      have l0 : (0 : Int) ≤ k := by omega
      have l1 : (k : Int) < N.ln := by omega
      obtain ⟨k1, k2, k3, k4⟩ := hg.lineK l0 l1
      refine B_Search_rideAll_2 ha hb ⟨fun q => absurd q (by rw [(hch M1 hf).lines]; omega), fun _ => ?_⟩
      have key2 : ∀ t : Nat, t ≤ (N.tr k).toNat → ∀ M2 : Mem, (∀ a i, a ≠ lb → M2 a i = M a i) → (∀ s, 0 ≤ s → s < 12 → M2 lb s = rdT N (M 229 3) (M 229 4) (M 229 5) ah (rdL N (M 229 3) (M 229 4) (M 229 5) ah e k) k t s) → AW mX6_rideAll 16 [(2, 229), (2, la), (2, lb), (0, (k : Int)), (0, (t : Int)), (9, 0)] M2 Q := by
        refine up_ind _ ?_ ?_
        · intro M2 hf2 hr2
          have hc := (hch M2 hf2).line l0 l1
          refine B_Search_rideAll_16 ha hb ⟨by omega, fun _ => ⟨by omega, ?_⟩, fun q => absurd (by rw [hc.2.2]; omega) q⟩
          rw [show (k : Int) + 1 = ((k + 1 : Nat) : Int) by omega]
          exact ih M2 hf2 hr2
        · intro t ht ih2 M2 hf2 hr2
          have hC := hch M2 hf2
          have hc := hC.line l0 l1
          have t0 : (0 : Int) ≤ t := by omega
          have t1 : (t : Int) < N.tr k := by omega
          have f3 : M2 229 3 = M 229 3 := hf2 _ _ (by omega)
          have f4 : M2 229 4 = M 229 4 := hf2 _ _ (by omega)
          have f5 : M2 229 5 = M 229 5 := hf2 _ _ (by omega)
          have fr : M2 63 (k * 6 + t) = N.rn k t := hC.run l0 l1 t0 t1 rfl
          have e1 : (((t + 1 : Nat) : Int)) = (t : Int) + 1 := by omega
          have skip : ¬ (N.rn k t = 1 ∧ ¬ ((k : Int) = M 229 3 ∧ (t : Int) = M 229 4)) → AW mX6_rideAll 16 [(2, 229), (2, la), (2, lb), (0, (k : Int)), (0, (t : Int) + 1), (9, 0)] M2 Q := by
            intro h
            rw [← e1]
            refine ih2 M2 hf2 (fun s q0 q1 => ?_)
            rw [rdT_s, if_neg h]
            exact hr2 s q0 q1
          have ride : (N.rn k t = 1 ∧ ¬ ((k : Int) = M 229 3 ∧ (t : Int) = M 229 4)) → ∀ P : Int → Mem → Prop, (∀ r M3, AW mX6_rideAll 16 [(2, 229), (2, la), (2, lb), (0, (k : Int)), (0, (t : Int) + 1), (9, 0)] M3 Q → P r M3) → Calls mX6_rideOne [(2, 229), (0, (k : Int)), (0, (t : Int)), (2, la), (2, lb)] S0 M2 P := by
            intro h P hP
            refine c_rideOne (ah := ah) hg hC l0 l1 t0 t1 ha hb hab hlb (fun s q0 q1 => by rw [hf2 _ _ hab]; exact hah s q0 q1) hr2 (fun M3 hf3 hr3 => hP _ _ ?_)
            rw [← e1]
            refine ih2 M3 (fun a i q => (hf3 a i q).trans (hf2 a i q)) (fun s q0 q1 => ?_)
            rw [rdT_s, if_pos h, hr3 s q0 q1, f5]
          refine B_Search_rideAll_16 ha hb ?_
          rw [hc.2.2, f3, f4, fr]
          refine ⟨by omega, fun q => absurd q (by omega), fun _ => ⟨fun h => ⟨by omega, by omega, by omega, fun h2 => ⟨by omega, skip (fun q => h2 q.1)⟩, fun h2 => ride ⟨h2, fun q => h q.1⟩ _ (fun r M3 h => ⟨by omega, h⟩)⟩, fun h => ⟨fun h3 => ⟨by omega, by omega, by omega, fun h2 => ⟨by omega, skip (fun q => h2 q.1)⟩, fun h2 => ride ⟨h2, fun q => h3 q.2⟩ _ (fun r M3 h => ⟨by omega, h⟩)⟩, fun h3 => ⟨by omega, skip (fun q => q.2 ⟨h, h3⟩)⟩⟩⟩⟩
      exact key2 0 (Nat.zero_le _) M1 hf hr
  exact key 0 (Nat.zero_le _) M (fun _ _ _ => rfl) he

set_option maxHeartbeats 4000000 in
theorem c_arriveAt {N : Net} {M : Mem} {Q : Int → Mem → Prop} {fr at_ s la : Int} {e : Int → Int} (hg : Good N) (hN : CH N 0 M) (ha : isA la 12) (s0 : 0 ≤ s) (s1 : s < 12) (hat : 0 ≤ at_ ∧ at_ ≤ 2000) (he : ∀ q, 0 ≤ q → q < 12 → M la q = e q) (heb : ∀ q, 0 ≤ q → q < 12 → 0 ≤ e q ∧ e q ≤ 10000)
    (hQ : Q (if s = fr then at_ else wkM N fr at_ e s 12) M) : Calls mX6_arriveAt [(2, 229), (0, s), (0, fr), (0, at_), (2, la)] S0 M Q := by
  refine E_Search_arriveAt (B_Search_arriveAt_0 ha ⟨fun h => ⟨by omega, ?_⟩, fun h => by rw [if_pos h] at hQ; exact hQ⟩)
  rw [if_neg h] at hQ
  have key : ∀ k : Nat, k ≤ 12 → AW mX6_arriveAt 16 [(2, 229), (0, s), (0, fr), (0, at_), (2, la), (0, wkM N fr at_ e s k), (0, (k : Int)), (9, 0), (9, 0)] M Q := by
    refine up_ind _ ?_ ?_
    · exact B_Search_arriveAt_16 ha ⟨fun _ => hQ, fun q => absurd (by omega) q⟩
    · intro k hk ih
      have e1 : (((k + 1 : Nat) : Int)) = (k : Int) + 1 := by omega
      have f1 : M (65 + (k : Int)) s = N.pt k s := hN.path (by omega) (by omega) s0 s1 rfl
      have f2 := he k (by omega) (by omega)
      have f3 := heb k (by omega) (by omega)
      have f4 := hg.path (a := k) (b := s) (by omega) (by omega) s0 s1
      refine B_Search_arriveAt_16 ha ?_
      rw [f1, f2]
      rw [wkM_s, e1] at ih
      unfold beg at ih
      refine ⟨fun q => absurd q (by omega), fun _ => ⟨by omega, by omega, fun h1 => ⟨fun h2 => ⟨by omega, ?_⟩, fun h2 => ⟨fun h3 => ⟨by omega, ?_⟩, fun h3 => ⟨by omega, by omega, ?_⟩⟩⟩, fun h1 => ⟨fun h2 => ⟨by omega, ?_⟩, fun h2 => ⟨fun h3 => ⟨by omega, ?_⟩, fun h3 => ⟨by omega, by omega, ?_⟩⟩⟩⟩⟩
      · rw [if_neg (fun q => q.1 h2)] at ih
        exact ih
      · rw [if_neg (fun q => q.2 (by rw [if_neg h1]; exact h3))] at ih
        exact ih
      · rw [if_neg h1, if_pos ⟨h2, h3⟩] at ih
        exact ih
      · rw [if_neg (fun q => q.1 h2)] at ih
        exact ih
      · exact absurd h3 (by omega)
      · rw [if_pos h1, if_pos ⟨h2, h3⟩] at ih
        exact ih
  rw [he s s0 s1]
  exact key 0 (Nat.zero_le _)
theorem wkM_le (N : Net) (fr at_ : Int) (e : Int → Int) (s : Int) : ∀ p : Nat, wkM N fr at_ e s p ≤ e s
  | 0 => Int.le_refl _
  | p + 1 => by
    have := wkM_le N fr at_ e s p
    rw [wkM_s]
    split <;> omega
theorem wkM_ge {N : Net} {fr at_ : Int} {e : Int → Int} {s b : Int} (hg : Good N) (s0 : 0 ≤ s) (s1 : s < 12) (ha : b ≤ at_) (he : ∀ q, 0 ≤ q → q < 12 → b ≤ e q) : ∀ p : Nat, p ≤ 12 → b ≤ wkM N fr at_ e s p
  | 0, _ => he s s0 s1
  | p + 1, hp => by
    have := wkM_ge (fr := fr) hg s0 s1 ha he p (by omega)
    have h1 := hg.path (a := p) (b := s) (by omega) (by omega) s0 s1
    have h2 := he p (by omega) (by omega)
    rw [wkM_s]
    unfold beg
    split
    · split <;> omega
    · omega
theorem wkM_cong {N : Net} {fr at_ : Int} {e e2 : Int → Int} {s : Int} (s0 : 0 ≤ s) (s1 : s < 12) (he : ∀ q, 0 ≤ q → q < 12 → e q = e2 q) : ∀ p : Nat, p ≤ 12 → wkM N fr at_ e s p = wkM N fr at_ e2 s p
  | 0, _ => he s s0 s1
  | p + 1, hp => by
    rw [wkM_s, wkM_s, wkM_cong s0 s1 he p (by omega)]
    unfold beg
    rw [he p (by omega) (by omega)]
theorem arv_cong {N : Net} {sh fr at_ : Int} {e e2 : Int → Int} {s : Int} (s0 : 0 ≤ s) (s1 : s < 12) (he : ∀ q, 0 ≤ q → q < 12 → e q = e2 q) : arv N sh fr at_ e s = arv N sh fr at_ e2 s := by
  unfold arv
  rw [wkM_cong s0 s1 he 12 (Nat.le_refl _)]
set_option maxHeartbeats 4000000 in
theorem c_arriveAll {N : Net} {M : Mem} {Q : Int → Mem → Prop} {fr at_ la lb : Int} {e : Int → Int} (hg : Good N) (hN : CH N 0 M) (ha : isA la 12) (hb : isA lb 12) (hab : la ≠ lb) (hlb : 230 < lb ∧ lb < 238) (hat : 0 ≤ at_ ∧ at_ ≤ 2000) (he : ∀ q, 0 ≤ q → q < 12 → M la q = e q) (heb : ∀ q, 0 ≤ q → q < 12 → 0 ≤ e q ∧ e q ≤ 10000)
    (hQ : ∀ M1, (∀ a i, a ≠ lb → M1 a i = M a i) → (∀ s, 0 ≤ s → s < 12 → M1 lb s = arv N (M 229 5) fr at_ e s) → Q 0 M1) : Calls mX6_arriveAll [(2, 229), (0, fr), (0, at_), (2, la), (2, lb)] S0 M Q := by
  refine E_Search_arriveAll (B_Search_arriveAll_0 ha hb ?_)
  have key : ∀ k : Nat, k ≤ 12 → ∀ M1 : Mem, (∀ a i, a ≠ lb → M1 a i = M a i) → (∀ s : Int, 0 ≤ s → s < k → M1 lb s = arv N (M 229 5) fr at_ e s) → AW mX6_arriveAll 3 [(2, 229), (0, fr), (0, at_), (2, la), (2, lb), (0, (k : Int))] M1 Q := by
    refine up_ind _ ?_ ?_
    · intro M1 hf hr
      exact B_Search_arriveAll_3 ha hb ⟨fun _ => hQ M1 hf (fun s q0 q1 => hr s q0 (by omega)), fun q => absurd (by omega) q⟩
    · intro k hk ih M1 hf hr
      have e1 : (((k + 1 : Nat) : Int)) = (k : Int) + 1 := by omega
      have hC : CH N 0 M1 := hN.frm (lo := 231) (hi := 238) (fun a i q => hf a i (by omega)) (by omega) hg
      have f5 : M1 229 5 = M 229 5 := hf _ _ (by omega)
      refine B_Search_arriveAll_3 ha hb ?_
      rw [f5]
      have put : ∀ v, v = arv N (M 229 5) fr at_ e k → AW mX6_arriveAll 3 [(2, 229), (0, fr), (0, at_), (2, la), (2, lb), (0, (k : Int) + 1)] (up2 M1 lb k v) Q := by
        intro v hv
        rw [← e1]
        refine ih _ (fun b i q => by rw [up2_ne q]; exact hf b i q) (fun s q0 q1 => ?_)
        unfold up2
        by_cases hs : s = k
        · rw [if_pos ⟨rfl, hs⟩, hs]
          exact hv
        · rw [if_neg (fun q => hs q.2)]
          exact hr s q0 (by omega)
      refine ⟨fun q => absurd q (by omega), fun _ => ⟨fun h => ?_, fun h => ⟨by omega, by omega, put _ ?_⟩⟩⟩
      · refine c_arriveAt (e := e) hg hC ha (by omega) (by omega) hat (fun q q0 q1 => by rw [hf _ _ hab]; exact he q q0 q1) heb ⟨by omega, by omega, put _ ?_⟩
        unfold arv
        rw [if_neg h]
      · unfold arv
        rw [if_pos h]
  exact key 0 (Nat.zero_le _) M (fun _ _ _ => rfl) (fun s q0 q1 => by omega)
