/-! feed, clear, walk, drop, delay -/
theorem IN.tape {N : Net} {M M1 : Mem} (h : IN N M) (hs : ∀ a i, ¬ scr a i → ¬ (263 ≤ a ∧ a ≤ 264) → a ≠ 292 → ¬ (a = 275 ∧ i = 26) → M1 a i = M a i) (hl : TapeI M1) : IN N M1 := by
  obtain ⟨hg, hc, hr, ⟨a1, a2, a3, a4, a5⟩, -, ht, hp, hi⟩ := h
  refine ⟨hg, hc.keep hg (fun a i q1 q2 => hs a i (by unfold scr; omega) (by omega) (by omega) (by omega)), hr.keep (fun a i q => hs a i (by unfold scr; omega) (by omega) (by omega) (by omega)), ⟨?_, ?_, ?_, ?_, ?_⟩, hl, ht.keep (fun a i q => hs a i (by unfold scr; omega) (by omega) (by omega) (by omega)), hp.keep (fun a i q => hs a i (by unfold scr; omega) (by omega) (by omega) (by omega)), hi.keep (hs _ _ (by unfold scr; omega) (by omega) (by omega) (by omega)) (hs _ _ (by unfold scr; omega) (by omega) (by omega) (by omega)) (fun a i q1 q2 => hs a i (by unfold scr; omega) (by omega) (by omega) (by omega)) (fun i => hs _ _ (by unfold scr; omega) (by omega) (by omega) (by omega))⟩
  all_goals (rw [hs _ _ (by unfold scr; omega) (by omega) (by omega) (by omega)]; assumption)
/-- the timetable alone has changed -/
theorem IN.net {N N2 : Net} {M M1 : Mem} (h : IN N M) (hs : ∀ a i, ¬ scr a i → ¬ (1 ≤ a ∧ a ≤ 76) → ¬ (a = 275 ∧ i = 0) → ¬ (276 ≤ a ∧ a ≤ 282) → M1 a i = M a i) (hg : Good N2) (hc : CH N2 0 M1) (hr : RH N2 M1) : IN N2 M1 := by
  obtain ⟨-, -, -, ⟨a1, a2, a3, a4, a5⟩, ht, hp, hl, hi⟩ := h
  refine ⟨hg, hc, hr, ⟨?_, ?_, ?_, ?_, ?_⟩, ht.keep (fun a i q => hs a i (by unfold scr; omega) (by omega) (by omega) (by omega)), hp.keep (fun a i q => hs a i (by unfold scr; omega) (by omega) (by omega) (by omega)), hl.keep (fun a i q => hs a i (by unfold scr; omega) (by omega) (by omega) (by omega)), hi.keep (hs _ _ (by unfold scr; omega) (by omega) (by omega) (by omega)) (hs _ _ (by unfold scr; omega) (by omega) (by omega) (by omega)) (fun a i q1 q2 => hs a i (by unfold scr; omega) (by omega) (by omega) (by omega)) (fun i => hs _ _ (by unfold scr; omega) (by omega) (by omega) (by omega))⟩
  all_goals (rw [hs _ _ (by unfold scr; omega) (by omega) (by omega) (by omega)]; assumption)
theorem b_feed (b : Int) : Bo mX8_feed mX9_feed [(0, b)] := by
  intro M K ⟨N, hI⟩ hK
  obtain ⟨t1, t2, t3⟩ := hI.ta
  have hS : Sc M (up2 M 275 8 0) := Sc.rf.up scr8
  have hk : ∀ v, K v v (up2 M 275 8 0) := fun v => hK v _ ⟨N, hI.sc hS⟩
  by_cases hb : 1 ≤ b ∧ b ≤ 127
  · by_cases hf : M 263 1 < 80
    · refine E_C_feed (B_C_feed_0 ⟨fun z => absurd z (by omega), fun _ => ⟨fun _ => ⟨fun _ => E_Text_put_1 (B_Text_put_1_0 ⟨fun _ => ⟨by omega, by omega, ?_⟩, fun z => absurd hf z⟩), fun z => absurd hf z⟩, fun z => absurd hb.2 z⟩⟩)
      rw [up2_at ⟨rfl, rfl⟩]
      refine E_R_feed (B_R_feed_0 ?_)
      have e : up2 (up2 M 264 (M 263 1) b) 263 1 (M 263 1 + 1) 275 26 = M 263 1 := by rw [up2_ni (by omega), up2_ni (by omega)]; exact t1.symm
      rw [e]
      refine ⟨fun z => absurd z (by omega), fun _ => ⟨fun z => absurd z (by omega), fun _ => ⟨fun _ => ⟨by omega, by omega, hK _ _ ⟨N, hI.tape (fun a i q q2 q3 q4 => ?_) ⟨?_, ?_, fun j j0 j1 => ?_⟩⟩⟩, fun z => absurd z (by omega)⟩⟩⟩
      · rw [up2_ni q4, up2_ne q3, up2_ni (fun w => q (by unfold scr; omega)), up2_ni (by omega), up2_ne (by omega)]
      · rw [up2_ni (by omega), up2_ni (by omega), up2_ni (by omega), up2_at ⟨rfl, rfl⟩, up2_at ⟨rfl, rfl⟩]
      · rw [up2_ni (by omega), up2_ni (by omega), up2_ni (by omega), up2_at ⟨rfl, rfl⟩]
        omega
      · rw [up2_ni (by omega), up2_ni (by omega), up2_ni (by omega), up2_at ⟨rfl, rfl⟩] at j1
        rw [up2_ne (b := 264) (by omega), up2_ne (b := 264) (by omega), up2_ne (b := 264) (by omega), up2_ne (b := 264) (by omega), up2_ne (b := 292) (by omega)]
        by_cases ej : j = M 263 1
        · rw [up2_at ⟨rfl, ej⟩, up2_at ⟨rfl, ej⟩]
          exact ⟨rfl, hb⟩
        · rw [up2_ni (by omega), up2_ni (by omega), up2_ne (b := 292) (by omega), up2_ne (b := 292) (by omega), up2_ne (b := 292) (by omega)]
          exact t3 j j0 (by omega)
    · refine E_C_feed (B_C_feed_0 ⟨fun z => absurd z (by omega), fun _ => ⟨fun _ => ⟨fun z => absurd z hf, fun _ => ?_⟩, fun z => absurd hb.2 z⟩⟩)
      exact E_R_feed (B_R_feed_0 ⟨fun z => absurd z (by omega), fun _ => ⟨fun z => absurd z (by omega), fun _ => ⟨fun z => absurd (by omega) z, fun _ => hk _⟩⟩⟩)
  · have hr : Calls mX9_feed [(2, 275), (0, b)] S0 M (fun r2 M2 => K (-2) r2 M2) := by
      refine E_R_feed (B_R_feed_0 ⟨fun _ => hk _, fun _ => ⟨fun _ => hk _, fun z => absurd (by omega) hb⟩⟩)
    exact E_C_feed (B_C_feed_0 ⟨fun _ => hr, fun _ => ⟨fun z => absurd (by omega) hb, fun _ => hr⟩⟩)
theorem b_clear : Bo mX8_clear mX9_clear [] := by
  intro M K ⟨N, hI⟩ hK
  obtain ⟨t1, t2, t3⟩ := hI.ta
  refine E_C_clear (B_C_clear_0 (E_R_clear (B_R_clear_0 ?_)))
  have e : up2 M 263 1 0 275 26 = M 263 1 := by rw [up2_ni (by omega)]; exact t1.symm
  rw [e]
  refine hK _ _ ⟨N, hI.tape (fun a i q q2 q3 q4 => ?_) ⟨?_, ?_, fun j j0 j1 => ?_⟩⟩
  · rw [up2_ni q4, up2_ni (fun w => q (by unfold scr; omega)), up2_ni (by omega)]
  · rw [up2_ni (by omega), up2_ni (by omega), up2_at ⟨rfl, rfl⟩, up2_at ⟨rfl, rfl⟩]
  · rw [up2_ni (by omega), up2_ni (by omega), up2_at ⟨rfl, rfl⟩]
    omega
  · rw [up2_ni (by omega), up2_ni (by omega), up2_at ⟨rfl, rfl⟩] at j1
    omega
-- WALK
def nWalk (N : Net) (a b v : Int) : Net := (N.ln, N.kd, N.sz, N.tr, N.sp, N.mi, N.rn, (fun x y => if (x = a ∧ y = b) ∨ (x = b ∧ y = a) then v else N.pt x y), N.fi)
theorem nWalk_good {N : Net} {a b v : Int} (hg : Good N) (hne : a ≠ b) (hv : 0 ≤ v ∧ v ≤ 60) : Good (nWalk N a b v) := by
  obtain ⟨h1, h2, h3⟩ := hg
  refine ⟨h1, h2, fun x y x0 x1 y0 y1 => ?_⟩
  obtain ⟨g1, g2, g3⟩ := h3 x y x0 x1 y0 y1
  show (0 ≤ (if (x = a ∧ y = b) ∨ (x = b ∧ y = a) then v else N.pt x y) ∧ (if (x = a ∧ y = b) ∨ (x = b ∧ y = a) then v else N.pt x y) ≤ 60) ∧ (if (x = a ∧ y = b) ∨ (x = b ∧ y = a) then v else N.pt x y) = (if (y = a ∧ x = b) ∨ (y = b ∧ x = a) then v else N.pt y x) ∧ (if (x = a ∧ x = b) ∨ (x = b ∧ x = a) then v else N.pt x x) = 0
  rw [if_neg (c := (x = a ∧ x = b) ∨ (x = b ∧ x = a)) (by omega)]
  by_cases h : (x = a ∧ y = b) ∨ (x = b ∧ y = a)
  · rw [if_pos h, if_pos (by omega)]
    exact ⟨hv, rfl, g3⟩
  · rw [if_neg h, if_neg (by omega)]
    exact ⟨g1, g2, g3⟩
theorem nWalk_ch {N : Net} {a b v : Int} {M : Mem} (hg : Good N) (h : CH N 0 M) (a0 : 0 ≤ a) (a1 : a < 12) (b0 : 0 ≤ b) (b1 : b < 12) : CH (nWalk N a b v) 0 (up2 (up2 M (65 + a) b v) (65 + b) a v) := by
  have hf : ∀ c i, c < 65 ∨ 76 < c → up2 (up2 M (65 + a) b v) (65 + b) a v c i = M c i := fun c i q => by rw [up2_ne (by omega), up2_ne (by omega)]
  obtain ⟨h1, h2, h3⟩ := h
  refine ⟨by rw [hf _ _ (by omega)]; exact h1, fun l l0 l1 => ?_, fun x y x0 x1 y0 y1 => ?_⟩
  · have hl1 : l < N.ln := l1
    have hk := hg.lineK l0 hl1
    obtain ⟨q1, q2, q3, q4, q5⟩ := h2 l l0 l1
    refine ⟨by rw [hf _ _ (by omega)]; exact q1, by rw [hf _ _ (by omega)]; exact q2, by rw [hf _ _ (by omega)]; exact q3, fun i i0 i1 => by rw [hf _ _ (by omega)]; exact q4 i i0 i1, fun t t0 t1 => ?_⟩
    have ht1 : t < N.tr l := t1
    obtain ⟨w1, w2⟩ := q5 t t0 t1
    exact ⟨by rw [hf _ _ (by omega)]; exact w1, fun i i0 i1 => by rw [hf _ _ (by omega)]; exact w2 i i0 i1⟩
  · show _ = if (x = a ∧ y = b) ∨ (x = b ∧ y = a) then v else N.pt x y
    by_cases h : x = b ∧ y = a
    · rw [if_pos (Or.inr h), up2_at (by omega)]
    · by_cases h' : x = a ∧ y = b
      · rw [if_pos (Or.inl h'), up2_ni (by omega), up2_at (by omega)]
      · rw [if_neg (by omega), up2_ni (by omega), up2_ni (by omega)]
        exact h3 x y x0 x1 y0 y1
theorem nWalk_rh {N : Net} {a b v : Int} {M : Mem} (h : RH N M) (a0 : 0 ≤ a) (a1 : a < 12) (b0 : 0 ≤ b) (b1 : b < 12) : RH (nWalk N a b v) (up2 (up2 M 282 (12 * a + b) v) 282 (12 * b + a) v) := by
  have hf : ∀ c i, c ≠ 282 → up2 (up2 M 282 (12 * a + b) v) 282 (12 * b + a) v c i = M c i := fun c i q => by rw [up2_ne q, up2_ne q]
  obtain ⟨h1, h2, h3⟩ := h
  refine ⟨by rw [hf _ _ (by omega)]; exact h1, fun l l0 l1 => ?_, fun x y x0 x1 y0 y1 => ?_⟩
  · obtain ⟨q1, q2, q3, q4, q5⟩ := h2 l l0 l1
    refine ⟨by rw [hf _ _ (by omega)]; exact q1, by rw [hf _ _ (by omega)]; exact q2, by rw [hf _ _ (by omega)]; exact q3, fun i i0 i1 => by rw [hf _ _ (by omega)]; exact q4 i i0 i1, fun t t0 t1 => ?_⟩
    obtain ⟨w1, w2⟩ := q5 t t0 t1
    exact ⟨by rw [hf _ _ (by omega)]; exact w1, fun i i0 i1 => by rw [hf _ _ (by omega)]; exact w2 i i0 i1⟩
  · show _ = if (x = a ∧ y = b) ∨ (x = b ∧ y = a) then v else N.pt x y
    by_cases h : x = b ∧ y = a
    · rw [if_pos (Or.inr h), up2_at (by omega)]
    · by_cases h' : x = a ∧ y = b
      · rw [if_pos (Or.inl h'), up2_ni (by omega), up2_at (by omega)]
      · rw [if_neg (by omega), up2_ni (by omega), up2_ni (by omega)]
        exact h3 x y x0 x1 y0 y1
set_option maxHeartbeats 4000000 in
theorem b_walk (a b v : Int) : Bo mX8_walk mX9_walk [(0, a), (0, b), (0, v)] := by
  intro M K ⟨N, hI⟩ hK
  have hg := hI.g
  have hS : Sc M (up2 M 275 8 0) := Sc.rf.up scr8
  have hk : ∀ v, K v v (up2 M 275 8 0) := fun v => hK v _ ⟨N, hI.sc hS⟩
  refine E_C_walk (B_C_walk_0 (c_foot hI ?_))
  have hff : fFoot N a b = if 0 ≤ a ∧ a < 12 ∧ 0 ≤ b ∧ b < 12 ∧ a ≠ b then (if N.pt a b = 0 then -5 else N.pt a b) else -1 := rfl
  by_cases hab : 0 ≤ a ∧ a < 12 ∧ 0 ≤ b ∧ b < 12 ∧ a ≠ b
  · rw [if_pos hab] at hff
    obtain ⟨a0, a1, b0, b1, hne⟩ := hab
    have hp := hg.path a0 a1 b0 b1
    have hne1 : fFoot N a b ≠ -1 := by
      rw [hff]
      split <;> omega
    by_cases hv : 0 ≤ v ∧ v ≤ 60
    · refine ⟨fun _ => ⟨fun z => absurd z (by omega), fun _ => ⟨fun _ => ⟨by omega, by omega, ?_⟩, fun z => absurd hv.2 z⟩⟩, fun z => absurd z hne1⟩
      refine E_R_walk (B_R_walk_0 ?_)
      have e : up2 (up2 M (65 + a) b v) (65 + b) a v 282 (12 * a + b) = N.pt a b := by
        rw [up2_ne (by omega), up2_ne (by omega)]
        exact hI.r.path a0 a1 b0 b1 rfl
      rw [e]
      have fin : K (fFoot N a b) (fFoot N a b) (up2 (up2 (up2 (up2 (up2 M (65 + a) b v) (65 + b) a v) 275 8 0) 282 (12 * a + b) v) 282 (12 * b + a) v) := by
        refine hK _ _ ⟨nWalk N a b v, hI.net (fun x i q q2 q3 q4 => ?_) (nWalk_good hg hne hv) ?_ ?_⟩
        · rw [up2_ne (by omega), up2_ne (by omega), up2_ni (fun w => q (by unfold scr; omega)), up2_ne (by omega), up2_ne (by omega)]
        · refine (nWalk_ch hg hI.c a0 a1 b0 b1).keep (nWalk_good hg hne hv) (fun x i q q2 => ?_)
          rw [up2_ne (by omega), up2_ne (by omega), up2_ne (by omega)]
        · refine nWalk_rh (hI.r.keep (fun x i q => ?_)) a0 a1 b0 b1
          rw [up2_ni (by omega), up2_ne (by omega), up2_ne (by omega)]
      refine ⟨fun z => absurd z (by omega), fun _ => ⟨fun z => absurd z (by omega), fun _ => ⟨fun z => absurd z (by omega), fun _ => ⟨fun z => absurd z (by omega), fun _ => ⟨fun z => absurd z hne, fun _ => ⟨fun z => absurd z (by omega), fun _ => ⟨fun z => absurd z (by omega), fun _ => ⟨by omega, by omega, by omega, fun z => ⟨by omega, by omega, by omega, ?_⟩, fun z => ⟨by omega, by omega, by omega, ?_⟩⟩⟩⟩⟩⟩⟩⟩⟩
      · rw [if_neg z] at hff
        rw [hff] at fin ⊢
        exact fin
      · rw [if_pos z] at hff
        rw [hff] at fin ⊢
        exact fin
    · have hr : Calls mX9_walk [(2, 275), (0, a), (0, b), (0, v)] S0 M (fun r2 M2 => K (-2) r2 M2) := by
        refine E_R_walk (B_R_walk_0 ?_)
        repeat' (first | refine And.intro ?_ ?_ | refine imp_i (fun _ => ?_))
        all_goals (first | omega | exact hk _)
      exact ⟨fun _ => ⟨fun _ => hr, fun _ => ⟨fun z => absurd (by omega) hv, fun _ => hr⟩⟩, fun z => absurd z hne1⟩
  · rw [if_neg hab] at hff
    have hr : Calls mX9_walk [(2, 275), (0, a), (0, b), (0, v)] S0 M (fun r2 M2 => K (-1) r2 M2) := by
      refine E_R_walk (B_R_walk_0 ?_)
      repeat' (first | refine And.intro ?_ ?_ | refine imp_i (fun _ => ?_))
      all_goals (first | omega | exact hk _)
    exact ⟨fun z => absurd hff z, fun _ => hr⟩
-- DROP
def nDrop (N : Net) (l : Int) : Net := (N.ln, N.kd, N.sz, (fun x => if x = l then N.tr l - 1 else N.tr x), N.sp, N.mi, N.rn, N.pt, N.fi)
theorem nDrop_tr (N : Net) (l x : Int) : (nDrop N l).tr x = if x = l then N.tr l - 1 else N.tr x := rfl
theorem nDrop_le (N : Net) (l x : Int) : (nDrop N l).tr x ≤ N.tr x := by
  rw [nDrop_tr]
  split
  · rename_i h
    rw [h]
    omega
  · exact Int.le_refl _
theorem nDrop_good {N : Net} {l : Int} (hg : Good N) (hl : N.tr l ≠ 0) (l0 : 0 ≤ l) (l1 : l < N.ln) : Good (nDrop N l) := by
  obtain ⟨h1, h2, h3⟩ := hg
  refine ⟨h1, fun x x0 x1 => ?_, h3⟩
  obtain ⟨g1, g2, g3, g4, g5, g6⟩ := h2 x x0 x1
  refine ⟨g1, g2, ?_, g4, g5, fun t t0 t1 => g6 t t0 (by have := nDrop_le N l x; omega)⟩
  rw [nDrop_tr]
  split
  · rename_i h
    rw [h] at g3
    omega
  · exact g3
theorem nDrop_ch {N : Net} {l : Int} {M : Mem} (hg : Good N) (h : CH N 0 M) (l0 : 0 ≤ l) (l1 : l < N.ln) : CH (nDrop N l) 0 (up2 M 4 l (N.tr l - 1)) := by
  obtain ⟨h1, h2, h3⟩ := h
  refine ⟨by rw [up2_ne (by omega)]; exact h1, fun x x0 x1 => ?_, fun x y x0 x1 y0 y1 => by rw [up2_ne (by omega)]; exact h3 x y x0 x1 y0 y1⟩
  have hk := hg.lineK x0 (show x < N.ln from x1)
  obtain ⟨q1, q2, q3, q4, q5⟩ := h2 x x0 x1
  refine ⟨by rw [up2_ne (by omega)]; exact q1, by rw [up2_ne (by omega)]; exact q2, ?_, fun i i0 i1 => by rw [up2_ne (by omega)]; exact q4 i i0 i1, fun t t0 t1 => ?_⟩
  · rw [nDrop_tr]
    by_cases e : x = l
    · rw [if_pos e, up2_at (by omega)]
    · rw [if_neg e, up2_ni (by omega)]
      exact q3
  · have := nDrop_le N l x
    obtain ⟨w1, w2⟩ := q5 t t0 (by omega)
    exact ⟨by rw [up2_ne (by omega)]; exact w1, fun i i0 i1 => by rw [up2_ne (by omega)]; exact w2 i i0 i1⟩
theorem nDrop_rh {N : Net} {l : Int} {M : Mem} (hg : Good N) (h : RH N M) (l0 : 0 ≤ l) (l1 : l < N.ln) : RH (nDrop N l) (up2 M 279 l (N.tr l - 1)) := by
  obtain ⟨h1, h2, h3⟩ := h
  refine ⟨by rw [up2_ne (by omega)]; exact h1, fun x x0 x1 => ?_, fun x y x0 x1 y0 y1 => by rw [up2_ne (by omega)]; exact h3 x y x0 x1 y0 y1⟩
  obtain ⟨q1, q2, q3, q4, q5⟩ := h2 x x0 x1
  refine ⟨by rw [up2_ne (by omega)]; exact q1, by rw [up2_ne (by omega)]; exact q2, ?_, fun i i0 i1 => by rw [up2_ne (by omega)]; exact q4 i i0 i1, fun t t0 t1 => ?_⟩
  · rw [nDrop_tr]
    by_cases e : x = l
    · rw [if_pos e, up2_at (by omega)]
    · rw [if_neg e, up2_ni (by omega)]
      exact q3
  · have := nDrop_le N l x
    obtain ⟨w1, w2⟩ := q5 t t0 (by omega)
    exact ⟨by rw [up2_ne (by omega)]; exact w1, fun i i0 i1 => by rw [up2_ne (by omega)]; exact w2 i i0 i1⟩
theorem b_drop (l : Int) : Bo mX8_drop mX9_drop [(0, l)] := by
  intro M K ⟨N, hI⟩ hK
  have hg := hI.g
  have h0 := hg.1
  have hS : Sc M (up2 M 275 8 0) := Sc.rf.up scr8
  have hk : ∀ v, K v v (up2 M 275 8 0) := fun v => hK v _ ⟨N, hI.sc hS⟩
  have hlc := hI.c.lines
  have hlr := hI.r.1
  by_cases hl : 0 ≤ l ∧ l < N.ln
  · obtain ⟨l0, l1⟩ := hl
    have hkk := hg.lineK l0 l1
    have tc := (hI.c.line l0 l1).2.2
    have tr := (hI.r.line l0 l1).2.2
    refine E_C_drop (B_C_drop_0 ⟨fun z => absurd z (by omega), fun _ => ⟨fun z => absurd z (by omega), fun _ => ⟨by omega, fun z => ⟨by omega, ?_⟩, fun z => ?_⟩⟩⟩)
    · rw [tc]
      refine E_R_drop (B_R_drop_0 ?_)
      have e1 : up2 M 4 l (N.tr l - 1) 275 0 = N.ln := by rw [up2_ne (by omega)]; exact hlr
      have e2 : up2 M 4 l (N.tr l - 1) 279 l = N.tr l := by rw [up2_ne (by omega)]; exact tr
      rw [e1, e2]
      refine ⟨by omega, fun z => absurd z (by omega), fun _ => ⟨fun z => absurd z (by omega), fun _ => ⟨by omega, fun _ => ⟨by omega, ?_⟩, fun z => absurd z (by omega)⟩⟩⟩
      have gd := nDrop_good hg (l := l) (by omega) l0 l1
      refine hK _ _ ⟨nDrop N l, hI.net (fun x i q q2 q3 q4 => ?_) gd ?_ ?_⟩
      · rw [up2_ne (by omega), up2_ni (fun w => q (by unfold scr; omega)), up2_ne (by omega)]
      · refine (nDrop_ch hg hI.c l0 l1).keep gd (fun x i q q2 => ?_)
        rw [up2_ne (by omega), up2_ne (by omega)]
      · refine nDrop_rh hg (hI.r.keep (fun x i q => ?_)) l0 l1
        rw [up2_ni (by omega), up2_ne (by omega)]
    · refine E_R_drop (B_R_drop_0 ⟨by omega, fun z => absurd z (by omega), fun _ => ⟨fun z => absurd z (by omega), fun _ => ⟨by omega, fun z2 => absurd (by omega) z2, fun _ => hk _⟩⟩⟩)
  · have hr : Calls mX9_drop [(2, 275), (0, l)] S0 M (fun r2 M2 => K (-1) r2 M2) :=
      E_R_drop (B_R_drop_0 ⟨by omega, fun _ => hk _, fun _ => ⟨fun _ => hk _, fun z => absurd (by omega) hl⟩⟩)
    exact E_C_drop (B_C_drop_0 ⟨fun _ => hr, fun _ => ⟨fun _ => hr, fun z => absurd (by omega) hl⟩⟩)
