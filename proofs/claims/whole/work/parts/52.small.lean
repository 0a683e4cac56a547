def fMinute (N : Net) (l t i : Int) : Int := if 0 ≤ l ∧ l < N.ln ∧ 0 ≤ t ∧ t < N.tr l ∧ 0 ≤ i ∧ i < N.sz l then N.mi l t i else -1
set_option maxHeartbeats 8000000 in
theorem c_minute {N : Net} {M : Mem} {Q : Int → Mem → Prop} {l t i : Int} (hI : IN N M) (hQ : Q (fMinute N l t i) M) : Calls mX8_minute [(2, 0), (0, l), (0, t), (0, i)] S0 M Q := by
  have hv : ∀ v, v = fMinute N l t i → Q v M := fun v h => h ▸ hQ
  have h0 := hI.g.1
  refine E_C_minute (B_C_minute_0 ?_)
  rw [hI.c.lines]
  by_cases hc2 : 0 ≤ l ∧ l < N.ln
  · obtain ⟨c1, c2, c3⟩ := hI.c.line hc2.1 hc2.2
    have hk := hI.g.lineK hc2.1 hc2.2
    rw [c2, c3]
    by_cases hc1 : (0 ≤ t ∧ t < N.tr l) ∧ 0 ≤ i ∧ i < N.sz l
    · rw [hI.c.min hc2.1 hc2.2 hc1.1.1 hc1.1.2 hc1.2.1 hc1.2.2 rfl]
      repeat' (first | refine And.intro ?_ ?_ | refine imp_i (fun _ => ?_))
      all_goals (first | omega | exact hv _ (by unfold fMinute; (repeat' split) <;> omega))
    · skip
      repeat' (first | refine And.intro ?_ ?_ | refine imp_i (fun _ => ?_))
      all_goals (first | omega | exact hv _ (by unfold fMinute; (repeat' split) <;> omega))
  · skip
    repeat' (first | refine And.intro ?_ ?_ | refine imp_i (fun _ => ?_))
    all_goals (first | omega | exact hv _ (by unfold fMinute; (repeat' split) <;> omega))

set_option maxHeartbeats 8000000 in
theorem r_minute {N : Net} {M : Mem} {Q : Int → Mem → Prop} {l t i : Int} (hI : IN N M) (hQ : Q (fMinute N l t i) (up2 M 275 8 0)) : Calls mX9_minute [(2, 275), (0, l), (0, t), (0, i)] S0 M Q := by
  have hv : ∀ v, v = fMinute N l t i → Q v (up2 M 275 8 0) := fun v h => h ▸ hQ
  have h0 := hI.g.1
  refine E_R_minute (B_R_minute_0 ?_)
  rw [hI.r.1]
  by_cases hc2 : 0 ≤ l ∧ l < N.ln
  · obtain ⟨c1, c2, c3⟩ := hI.r.line hc2.1 hc2.2
    have hk := hI.g.lineK hc2.1 hc2.2
    rw [c2, c3]
    by_cases hc1 : (0 ≤ t ∧ t < N.tr l) ∧ 0 ≤ i ∧ i < N.sz l
    · rw [hI.r.min hc2.1 hc2.2 hc1.1.1 hc1.1.2 hc1.2.1 hc1.2.2 rfl]
      repeat' (first | refine And.intro ?_ ?_ | refine imp_i (fun _ => ?_))
      all_goals (first | omega | exact hv _ (by unfold fMinute; (repeat' split) <;> omega))
    · skip
      repeat' (first | refine And.intro ?_ ?_ | refine imp_i (fun _ => ?_))
      all_goals (first | omega | exact hv _ (by unfold fMinute; (repeat' split) <;> omega))
  · skip
    repeat' (first | refine And.intro ?_ ?_ | refine imp_i (fun _ => ?_))
    all_goals (first | omega | exact hv _ (by unfold fMinute; (repeat' split) <;> omega))

theorem rn01 {N : Net} (hg : Good N) {l t : Int} (l0 : 0 ≤ l) (l1 : l < N.ln) (t0 : 0 ≤ t) (t1 : t < N.tr l) : N.rn l t = 0 ∨ N.rn l t = 1 := by
  rw [(hg.trip l0 l1 t0 t1).1]
  unfold runF
  (repeat' split) <;> omega
def fRuns (N : Net) (l t : Int) : Int := if 0 ≤ l ∧ l < N.ln ∧ 0 ≤ t ∧ t < N.tr l then N.rn l t else -1
set_option maxHeartbeats 8000000 in
theorem c_runs {N : Net} {M : Mem} {Q : Int → Mem → Prop} {l t : Int} (hI : IN N M) (hQ : Q (fRuns N l t) M) : Calls mX8_runs [(2, 0), (0, l), (0, t)] S0 M Q := by
  have hv : ∀ v, v = fRuns N l t → Q v M := fun v h => h ▸ hQ
  have h0 := hI.g.1
  refine E_C_runs (B_C_runs_0 ?_)
  rw [hI.c.lines]
  by_cases hc2 : 0 ≤ l ∧ l < N.ln
  · obtain ⟨c1, c2, c3⟩ := hI.c.line hc2.1 hc2.2
    have hk := hI.g.lineK hc2.1 hc2.2
    rw [c3]
    by_cases hc1 : 0 ≤ t ∧ t < N.tr l
    · rw [hI.c.run hc2.1 hc2.2 hc1.1 hc1.2 rfl]
      have hr := rn01 hI.g hc2.1 hc2.2 hc1.1 hc1.2
      repeat' (first | refine And.intro ?_ ?_ | refine imp_i (fun _ => ?_))
      all_goals (first | omega | exact hv _ (by unfold fRuns; (repeat' split) <;> omega))
    · skip
      repeat' (first | refine And.intro ?_ ?_ | refine imp_i (fun _ => ?_))
      all_goals (first | omega | exact hv _ (by unfold fRuns; (repeat' split) <;> omega))
  · skip
    repeat' (first | refine And.intro ?_ ?_ | refine imp_i (fun _ => ?_))
    all_goals (first | omega | exact hv _ (by unfold fRuns; (repeat' split) <;> omega))

set_option maxHeartbeats 8000000 in
theorem r_runs {N : Net} {M : Mem} {Q : Int → Mem → Prop} {l t : Int} (hI : IN N M) (hQ : Q (fRuns N l t) (up2 M 275 8 0)) : Calls mX9_runs [(2, 275), (0, l), (0, t)] S0 M Q := by
  have hv : ∀ v, v = fRuns N l t → Q v (up2 M 275 8 0) := fun v h => h ▸ hQ
  have h0 := hI.g.1
  have hI2 : IN N (up2 M 275 8 0) := hI.sc (Sc.rf.up scr8)
  refine E_R_runs (B_R_runs_0 ?_)
  rw [hI.r.1]
  by_cases hl : 0 ≤ l ∧ l < N.ln
  · obtain ⟨c1, c2, c3⟩ := hI.r.line hl.1 hl.2
    have hk := hI.g.lineK hl.1 hl.2
    rw [c3]
    by_cases ht : 0 ≤ t ∧ t < N.tr l
    · have hr := rn01 hI.g hl.1 hl.2 ht.1 ht.2
      have hF : fRuns N l t = N.rn l t := by unfold fRuns; rw [if_pos ⟨hl.1, hl.2, ht⟩]
      refine ⟨by omega, fun q => absurd q (by omega), fun _ => ⟨fun q => absurd q (by omega), fun _ => ⟨by omega, by omega, fun q => absurd q (by omega), fun _ => ⟨fun q => absurd q (by omega), fun _ => ?_⟩⟩⟩⟩
      exact r_isRunning hI.g hI2.r hl.1 hl.2 ht.1 ht.2 ⟨fun h => hv _ (by omega), fun h => hv _ (by omega)⟩
    · have hF : fRuns N l t = -1 := by unfold fRuns; rw [if_neg (fun q => ht ⟨q.2.2.1, q.2.2.2⟩)]
      refine ⟨by omega, fun q => absurd q (by omega), fun _ => ⟨fun q => absurd q (by omega), fun _ => ⟨by omega, by omega, fun q => hv _ hF.symm, fun _ => ⟨fun q => hv _ hF.symm, fun _ => absurd ⟨by omega, by omega⟩ ht⟩⟩⟩⟩
  · have hF : fRuns N l t = -1 := by unfold fRuns; rw [if_neg (fun q => hl ⟨q.1, q.2.1⟩)]
    exact ⟨by omega, fun q => hv _ hF.symm, fun _ => ⟨fun q => hv _ hF.symm, fun _ => absurd ⟨by omega, by omega⟩ hl⟩⟩
def fFoot (N : Net) (a b : Int) : Int := if 0 ≤ a ∧ a < 12 ∧ 0 ≤ b ∧ b < 12 ∧ a ≠ b then (if N.pt a b = 0 then -5 else N.pt a b) else -1
set_option maxHeartbeats 8000000 in
theorem c_foot {N : Net} {M : Mem} {Q : Int → Mem → Prop} {a b : Int} (hI : IN N M) (hQ : Q (fFoot N a b) M) : Calls mX8_foot [(2, 0), (0, a), (0, b)] S0 M Q := by
  have hv : ∀ v, v = fFoot N a b → Q v M := fun v h => h ▸ hQ
  have h0 := hI.g.1
  refine E_C_foot (B_C_foot_0 ?_)
  by_cases hc1 : (0 ≤ a ∧ a < 12) ∧ 0 ≤ b ∧ b < 12
  · rw [hI.c.path hc1.1.1 hc1.1.2 hc1.2.1 hc1.2.2 rfl]
    repeat' (first | refine And.intro ?_ ?_ | refine imp_i (fun _ => ?_))
    all_goals (first | omega | exact hv _ (by unfold fFoot; (repeat' split) <;> omega))
  · skip
    repeat' (first | refine And.intro ?_ ?_ | refine imp_i (fun _ => ?_))
    all_goals (first | omega | exact hv _ (by unfold fFoot; (repeat' split) <;> omega))

set_option maxHeartbeats 8000000 in
theorem r_foot {N : Net} {M : Mem} {Q : Int → Mem → Prop} {a b : Int} (hI : IN N M) (hQ : Q (fFoot N a b) (up2 M 275 8 0)) : Calls mX9_foot [(2, 275), (0, a), (0, b)] S0 M Q := by
  have hv : ∀ v, v = fFoot N a b → Q v (up2 M 275 8 0) := fun v h => h ▸ hQ
  have h0 := hI.g.1
  refine E_R_foot (B_R_foot_0 ?_)
  by_cases hc1 : (0 ≤ a ∧ a < 12) ∧ 0 ≤ b ∧ b < 12
  · rw [hI.r.path hc1.1.1 hc1.1.2 hc1.2.1 hc1.2.2 rfl]
    repeat' (first | refine And.intro ?_ ?_ | refine imp_i (fun _ => ?_))
    all_goals (first | omega | exact hv _ (by unfold fFoot; (repeat' split) <;> omega))
  · skip
    repeat' (first | refine And.intro ?_ ?_ | refine imp_i (fun _ => ?_))
    all_goals (first | omega | exact hv _ (by unfold fFoot; (repeat' split) <;> omega))

def fPaper (M : Mem) (i : Int) : Int := if 0 ≤ i ∧ i < M 265 1 then M 266 i else -1
set_option maxHeartbeats 8000000 in
theorem c_paper {N : Net} {M : Mem} {Q : Int → Mem → Prop} {i : Int} (hI : IN N M) (hQ : Q (fPaper M i) M) : Calls mX8_paper [(2, 0), (0, i)] S0 M Q := by
  have hv : ∀ v, v = fPaper M i → Q v M := fun v h => h ▸ hQ
  have h0 := hI.g.1
  refine E_C_paper (B_C_paper_0 ?_)
  have h1 := hI.pa.2.1
  repeat' (first | refine And.intro ?_ ?_ | refine imp_i (fun _ => ?_))
  all_goals (first | omega | exact hv _ (by unfold fPaper; (repeat' split) <;> omega))

set_option maxHeartbeats 8000000 in
theorem r_paper {N : Net} {M : Mem} {Q : Int → Mem → Prop} {i : Int} (hI : IN N M) (hQ : Q (fPaper M i) (up2 M 275 8 0)) : Calls mX9_paper [(2, 275), (0, i)] S0 M Q := by
  have hv : ∀ v, v = fPaper M i → Q v (up2 M 275 8 0) := fun v h => h ▸ hQ
  have h0 := hI.g.1
  refine E_R_paper (B_R_paper_0 ?_)
  have h1 := hI.pa.2.1
  rw [← hI.pa.1]
  by_cases hc1 : 0 ≤ i ∧ i < M 265 1
  · rw [← hI.pa.2.2 i hc1.1 hc1.2]
    repeat' (first | refine And.intro ?_ ?_ | refine imp_i (fun _ => ?_))
    all_goals (first | omega | exact hv _ (by unfold fPaper; (repeat' split) <;> omega))
  · skip
    repeat' (first | refine And.intro ?_ ?_ | refine imp_i (fun _ => ?_))
    all_goals (first | omega | exact hv _ (by unfold fPaper; (repeat' split) <;> omega))

def fGet (M : Mem) (l i : Int) : Int := if 0 ≤ l ∧ l < 4 ∧ 0 ≤ i ∧ i < M 274 l then M (270 + l) i else -2000000000
set_option maxHeartbeats 8000000 in
theorem c_get {N : Net} {M : Mem} {Q : Int → Mem → Prop} {l i : Int} (hI : IN N M) (hQ : Q (fGet M l i) M) : Calls mX8_get [(2, 0), (0, l), (0, i)] S0 M Q := by
  have hv : ∀ v, v = fGet M l i → Q v M := fun v h => h ▸ hQ
  have h0 := hI.g.1
  refine E_C_get (B_C_get_0 ?_)
  by_cases hc1 : 0 ≤ l ∧ l < 4
  · have hl := hI.li l hc1.1 hc1.2
    have hl2 : M 274 l ≤ 20 := by rcases hl with q | q <;> omega
    repeat' (first | refine And.intro ?_ ?_ | refine imp_i (fun _ => ?_))
    all_goals (first | omega | exact hv _ (by unfold fGet; (repeat' split) <;> omega))
  · skip
    repeat' (first | refine And.intro ?_ ?_ | refine imp_i (fun _ => ?_))
    all_goals (first | omega | exact hv _ (by unfold fGet; (repeat' split) <;> omega))

set_option maxHeartbeats 8000000 in
theorem r_get {N : Net} {M : Mem} {Q : Int → Mem → Prop} {l i : Int} (hI : IN N M) (hQ : Q (fGet M l i) (up2 M 275 8 0)) : Calls mX9_get [(2, 275), (0, l), (0, i)] S0 M Q := by
  have hv : ∀ v, v = fGet M l i → Q v (up2 M 275 8 0) := fun v h => h ▸ hQ
  refine E_R_get (B_R_get_0 ?_)
  by_cases hl : 0 ≤ l ∧ l < 4
  · rcases hI.li l hl.1 hl.2 with ⟨q1, q2⟩ | ⟨q1, q2, q3, q4⟩
    · rw [q1]
      repeat' (first | refine And.intro ?_ ?_ | refine imp_i (fun _ => ?_))
      all_goals (first | omega | exact hv _ (by unfold fGet; (repeat' split) <;> omega))
    · rw [q1, ← q2]
      by_cases hi : 0 ≤ i ∧ i < M 274 l
      · rw [← q4 i hi.1 hi.2]
        repeat' (first | refine And.intro ?_ ?_ | refine imp_i (fun _ => ?_))
        all_goals (first | omega | exact hv _ (by unfold fGet; (repeat' split) <;> omega))
      · repeat' (first | refine And.intro ?_ ?_ | refine imp_i (fun _ => ?_))
        all_goals (first | omega | exact hv _ (by unfold fGet; (repeat' split) <;> omega))
  · repeat' (first | refine And.intro ?_ ?_ | refine imp_i (fun _ => ?_))
    all_goals (first | omega | exact hv _ (by unfold fGet; (repeat' split) <;> omega))
