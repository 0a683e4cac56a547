/-! THE SMALL QUESTIONS -/
theorem scr8 : scr 275 8 := by unfold scr; omega
def fStop (N : Net) (l i : Int) : Int := if 0 ≤ l ∧ l < N.ln ∧ 0 ≤ i ∧ i < N.sz l then N.sp l i else -1
set_option maxHeartbeats 4000000 in
theorem c_stop {N : Net} {M : Mem} {Q : Int → Mem → Prop} {l i : Int} (hI : IN N M) (hQ : Q (fStop N l i) M) : Calls mX8_stop [(2, 0), (0, l), (0, i)] S0 M Q := by
  have hv : ∀ v, v = fStop N l i → Q v M := fun v h => h ▸ hQ
  have h0 := hI.g.1
  refine E_C_stop (B_C_stop_0 ?_)
  rw [hI.c.lines]
  by_cases hl : 0 ≤ l ∧ l < N.ln
  · obtain ⟨c1, c2, c3⟩ := hI.c.line hl.1 hl.2
    have hk := hI.g.lineK hl.1 hl.2
    rw [c2]
    by_cases hi : 0 ≤ i ∧ i < N.sz l
    · rw [hI.c.stop hl.1 hl.2 hi.1 hi.2 rfl]
      repeat' (first | refine And.intro ?_ ?_ | refine imp_i (fun _ => ?_))
      all_goals (first | omega | exact hv _ (by unfold fStop; (repeat' split) <;> omega))
    · repeat' (first | refine And.intro ?_ ?_ | refine imp_i (fun _ => ?_))
      all_goals (first | omega | exact hv _ (by unfold fStop; (repeat' split) <;> omega))
  · repeat' (first | refine And.intro ?_ ?_ | refine imp_i (fun _ => ?_))
    all_goals (first | omega | exact hv _ (by unfold fStop; (repeat' split) <;> omega))
set_option maxHeartbeats 4000000 in
theorem r_stop {N : Net} {M : Mem} {Q : Int → Mem → Prop} {l i : Int} (hI : IN N M) (hQ : Q (fStop N l i) (up2 M 275 8 0)) : Calls mX9_stop [(2, 275), (0, l), (0, i)] S0 M Q := by
  have hv : ∀ v, v = fStop N l i → Q v (up2 M 275 8 0) := fun v h => h ▸ hQ
  have h0 := hI.g.1
  refine E_R_stop (B_R_stop_0 ?_)
  rw [hI.r.1]
  by_cases hl : 0 ≤ l ∧ l < N.ln
  · obtain ⟨c1, c2, c3⟩ := hI.r.line hl.1 hl.2
    have hk := hI.g.lineK hl.1 hl.2
    rw [c2]
    by_cases hi : 0 ≤ i ∧ i < N.sz l
    · rw [hI.r.stop hl.1 hl.2 hi.1 hi.2 rfl]
      repeat' (first | refine And.intro ?_ ?_ | refine imp_i (fun _ => ?_))
      all_goals (first | omega | exact hv _ (by unfold fStop; (repeat' split) <;> omega))
    · repeat' (first | refine And.intro ?_ ?_ | refine imp_i (fun _ => ?_))
      all_goals (first | omega | exact hv _ (by unfold fStop; (repeat' split) <;> omega))
  · repeat' (first | refine And.intro ?_ ?_ | refine imp_i (fun _ => ?_))
    all_goals (first | omega | exact hv _ (by unfold fStop; (repeat' split) <;> omega))
